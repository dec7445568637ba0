theorem kX8_3 : Cond.methodLink RX8 3 Lib.objectInit ∈ GW := gw_mem 34 (by decide +kernel) (by decide +kernel)
theorem kcX8_9 : Cond.classLink RX8 9 RX5 ∈ GW := gw_mem 37 (by decide +kernel) (by decide +kernel)
theorem kinst5 : Cond.instantiable RX5 2 ∈ GW := gw_mem 38 (by decide +kernel) (by decide +kernel)
theorem kini5 : Cond.initialized RX5 ∈ GW := gw_mem 14 (by decide +kernel) (by decide +kernel)
theorem kX8_11 : Cond.methodLinkNest RX8 11 yX5_init "FeudBook" ∈ NW := nw_mem 39 (by decide +kernel) rfl
theorem kX5_3 : Cond.methodLink RX5 3 Lib.objectInit ∈ GW := gw_mem 42 (by decide +kernel) (by decide +kernel)
theorem kcX8_16 : Cond.classLink RX8 16 RX6 ∈ GW := gw_mem 53 (by decide +kernel) (by decide +kernel)
theorem kinst6 : Cond.instantiable RX6 7 ∈ GW := gw_mem 54 (by decide +kernel) (by decide +kernel)
theorem kini6 : Cond.initialized RX6 ∈ GW := gw_mem 15 (by decide +kernel) (by decide +kernel)
theorem kX8_18 : Cond.methodLinkNest RX8 18 yX6_init "FeudBook" ∈ NW := nw_mem 55 (by decide +kernel) rfl
theorem kX6_3 : Cond.methodLink RX6 3 Lib.objectInit ∈ GW := gw_mem 58 (by decide +kernel) (by decide +kernel)
theorem kX6_9 : Cond.methodLink RX6 9 yX6_packKeywords ∈ GW := gw_mem 59 (by decide +kernel) (by decide +kernel)
theorem kX6_31 : Cond.methodLink RX6 31 yJ0_length_8abf5 ∈ GW := gw_mem 63 (by decide +kernel) (by decide +kernel)
theorem bJ0_length_8abf5 : CBv yJ0_length_8abf5 cJ0_length_8abf5 1 (some .int) 0 := ⟨⟨gw_mem 66 (by decide +kernel) (by decide +kernel), gw_mem 3 (by decide +kernel) (by decide +kernel), by decide +kernel, by decide⟩, gw_mem 64 (by decide +kernel) (by decide +kernel), gw_mem 65 (by decide +kernel) (by decide +kernel)⟩
theorem kX6_37 : Cond.methodLink RX6 37 yJ0_charAt_5068e ∈ GW := gw_mem 73 (by decide +kernel) (by decide +kernel)
theorem bJ0_charAt_5068e : CBv yJ0_charAt_5068e cJ0_charAt_5068e 2 (some .char) 1 := ⟨⟨gw_mem 76 (by decide +kernel) (by decide +kernel), gw_mem 3 (by decide +kernel) (by decide +kernel), by decide +kernel, by decide⟩, gw_mem 74 (by decide +kernel) (by decide +kernel), gw_mem 75 (by decide +kernel) (by decide +kernel)⟩
theorem kcX8_23 : Cond.classLink RX8 23 RX0 ∈ GW := gw_mem 141 (by decide +kernel) (by decide +kernel)
theorem kinst0 : Cond.instantiable RX0 16 ∈ GW := gw_mem 142 (by decide +kernel) (by decide +kernel)
theorem kini0 : Cond.initialized RX0 ∈ GW := gw_mem 16 (by decide +kernel) (by decide +kernel)
theorem kX8_25 : Cond.methodLinkNest RX8 25 yX0_init "FeudBook" ∈ NW := nw_mem 143 (by decide +kernel) rfl
theorem kX0_3 : Cond.methodLink RX0 3 Lib.objectInit ∈ GW := gw_mem 146 (by decide +kernel) (by decide +kernel)
theorem kcX8_33 : Cond.classLink RX8 33 RX4 ∈ GW := gw_mem 208 (by decide +kernel) (by decide +kernel)
theorem kinst4 : Cond.instantiable RX4 7 ∈ GW := gw_mem 209 (by decide +kernel) (by decide +kernel)
theorem kini4 : Cond.initialized RX4 ∈ GW := gw_mem 17 (by decide +kernel) (by decide +kernel)
theorem kX8_35 : Cond.methodLink RX8 35 yX4_init ∈ GW := gw_mem 210 (by decide +kernel) (by decide +kernel)
theorem kX4_3 : Cond.methodLink RX4 3 Lib.objectInit ∈ GW := gw_mem 213 (by decide +kernel) (by decide +kernel)
theorem kcX8_42 : Cond.classLink RX8 42 RX7 ∈ GW := gw_mem 236 (by decide +kernel) (by decide +kernel)
theorem kinst7 : Cond.instantiable RX7 6 ∈ GW := gw_mem 237 (by decide +kernel) (by decide +kernel)
theorem kini7 : Cond.initialized RX7 ∈ GW := gw_mem 18 (by decide +kernel) (by decide +kernel)
theorem kX8_44 : Cond.methodLink RX8 44 yX7_init ∈ GW := gw_mem 238 (by decide +kernel) (by decide +kernel)
theorem kX7_3 : Cond.methodLink RX7 3 Lib.objectInit ∈ GW := gw_mem 241 (by decide +kernel) (by decide +kernel)
theorem kcX8_51 : Cond.classLink RX8 51 RX3 ∈ GW := gw_mem 261 (by decide +kernel) (by decide +kernel)
theorem kinst3 : Cond.instantiable RX3 7 ∈ GW := gw_mem 262 (by decide +kernel) (by decide +kernel)
theorem kini3 : Cond.initialized RX3 ∈ GW := gw_mem 19 (by decide +kernel) (by decide +kernel)
theorem kX8_53 : Cond.methodLink RX8 53 yX3_init ∈ GW := gw_mem 263 (by decide +kernel) (by decide +kernel)
theorem kX3_3 : Cond.methodLink RX3 3 Lib.objectInit ∈ GW := gw_mem 266 (by decide +kernel) (by decide +kernel)
theorem kcX8_58 : Cond.classLink RX8 58 RX2 ∈ GW := gw_mem 289 (by decide +kernel) (by decide +kernel)
theorem kinst2 : Cond.instantiable RX2 5 ∈ GW := gw_mem 290 (by decide +kernel) (by decide +kernel)
theorem kini2 : Cond.initialized RX2 ∈ GW := gw_mem 20 (by decide +kernel) (by decide +kernel)
theorem kX8_60 : Cond.methodLink RX8 60 yX2_init ∈ GW := gw_mem 291 (by decide +kernel) (by decide +kernel)
theorem kX2_3 : Cond.methodLink RX2 3 Lib.objectInit ∈ GW := gw_mem 294 (by decide +kernel) (by decide +kernel)
theorem kX8_63 : Cond.fieldLink RX8 63 "FeudBook" "judge" "LFeudBook$Judge;" ∈ GW := gw_mem 339 (by decide +kernel) (by decide +kernel)
theorem kcX8_67 : Cond.classLink RX8 67 RX1 ∈ GW := gw_mem 311 (by decide +kernel) (by decide +kernel)
theorem kinst1 : Cond.instantiable RX1 3 ∈ GW := gw_mem 312 (by decide +kernel) (by decide +kernel)
theorem kini1 : Cond.initialized RX1 ∈ GW := gw_mem 21 (by decide +kernel) (by decide +kernel)
theorem kX8_69 : Cond.methodLinkNest RX8 69 yX1_init "FeudBook" ∈ NW := nw_mem 313 (by decide +kernel) rfl
theorem kX1_1 : Cond.methodLink RX1 1 Lib.objectInit ∈ GW := gw_mem 316 (by decide +kernel) (by decide +kernel)
theorem kX8_74 : Cond.fieldLink RX8 74 "FeudBook" "trial" "LFeudBook$Course;" ∈ GW := gw_mem 341 (by decide +kernel) (by decide +kernel)
def YX5_init_1 : List Kd := [.inl (8, [2, 2, 2, 2, 2, 2, 2, 2, 2, 2, 0]), .inl (5, [2, 0])]
def i_X5_init_1 (x : XS) : XS := (clr x 2)
def X5_init_1_y1 : List Kd := [.inl (8, [2, 2, 2, 2, 2, 2, 2, 2, 2, 2, 0]), .inl (5, [2, 0]), .inr (2, 2000)]
def X5_init_1_y2 : List Kd := [.inl (8, [2, 2, 2, 2, 2, 2, 2, 2, 2, 2, 0]), .inl (5, [5, 0]), .inr (2, 2000)]
set_option maxHeartbeats 4000000 in
set_option maxRecDepth 100000 in
theorem c_X5_init_1 {g : Gx} {a : Nat → Nat} {x : XS}  : Mz g yX5_init cX5_init 1 none 2 1 2000 YX5_init_1 a x [.ref (a 1)] (fun v lay' a1 x' => v = none ∧ lay' = X5_init_1_y2 ∧ x' = i_X5_init_1 x ∧ ∀ j, (j < 2 ∨ 3 ≤ j) → a1 j = a j) := by
  refine Mz_of (by decide +kernel) (Nat.le_of_ble_eq_true rfl) ?_
  intro k hk he hg
  subst hg
  refine xaload_n hk dX5_init_0 rfl ?_
  refine xobjInit hk dX5_init_1 kX5_3 (by first | decide | omega) (Nat.le_of_ble_eq_true rfl) ?_
  refine xaload_n hk dX5_init_4 rfl ?_
  refine xsipush (v := 2000) hk dX5_init_5 (by decide) ?_
  refine xnewB (N := 2000) hk dX5_init_8 (by decide) (by decide) (Nat.le_of_ble_eq_true rfl) (Nat.le_of_ble_eq_true rfl) (Nat.le_of_ble_eq_true rfl) (by decide +kernel) ?_
  intro a1 ha1
  rw [show YX5_init_1.length = 2 from rfl] at ha1 ⊢
  refine xlay (lay' := X5_init_1_y1) rfl ?_
  rw [← ha1 1 (by decide)]
  refine xputF (q := 1) (ci := 5) (f := 0) (j := 2) hk dX5_init_10 rfl (by decide) rfl (by decide) kX5_9 rfl rfl (tyX5_ok 0 (by decide)) (fun _ => ⟨rfl, rfl⟩) ?_
  refine xlay (lay' := X5_init_1_y2) rfl ?_
  refine xvretZ hk he dX5_init_13 ⟨Nat.le_of_ble_eq_true rfl, Nat.le_of_ble_eq_true rfl⟩ ?_
  exact ⟨rfl, rfl, rfl, fun j hj => (ha1 j (by omega))⟩

def YX6_packKeywords_4 : List Kd := [.inl (8, [4, 2, 2, 2, 2, 2, 2, 2, 2, 2, 0]), .inl (5, [5, 0]), .inr (2, 2000), .inl (6, [2, 2, 2, 2, 0, 0, 1])]
def i_X6_packKeywords_L9   : Nat → Int32 → Int32 → XS → Option XS
  | 0, _, _, _ => none
  | n + 1, l1, l2, x => (if (lenT 29) ≤ l2 then some x else og (inB l2 (txB 29).length) ((if (chT 29 l2) = 32 then (i_X6_packKeywords_L9   n (l1 + 1) (l2 + 1) x) else (if 27 ≤ l1 then (i_X6_packKeywords_L9   n l1 (l2 + 1) x) else og (inB l1 27) (og (inB l1 27) ((i_X6_packKeywords_L9   n l1 (l2 + 1) (setL x 4 (l1 : Int32).toNatClampNeg (packF (x.2 4 (l1 : Int32).toNatClampNeg) (chT 29 l2))))))))))
def i_X6_packKeywords (x : XS) : Option XS := (i_X6_packKeywords_L9   200 0 0 (clr x 4))
def X6_packKeywords_y1 : List Kd := [.inl (8, [4, 2, 2, 2, 2, 2, 2, 2, 2, 2, 0]), .inl (5, [5, 0]), .inr (2, 2000), .inl (6, [2, 2, 2, 2, 0, 0, 1]), .inr (1, 27)]
set_option maxHeartbeats 4000000 in
set_option maxRecDepth 100000 in
theorem c_X6_packKeywords {g : Gx} {a : Nat → Nat} {x : XS} {u : XS} (h : i_X6_packKeywords x = some u) : Mz g yX6_packKeywords cX6_packKeywords 4 (some (.array .long)) 5 1 27 YX6_packKeywords_4 a x [] (fun v lay' a1 x' => v = some (.ref (a1 4)) ∧ lay' = X6_packKeywords_y1 ∧ x' = u ∧ ∀ j, (j < 4 ∨ 5 ≤ j) → a1 j = a j) := by
  refine Mz_of (by decide +kernel) (Nat.le_of_ble_eq_true rfl) ?_
  intro k hk he hg
  subst hg
  rw [i_X6_packKeywords] at h
  refine xbipush (v := 27) hk dX6_packKeywords_0 (by decide) ?_
  refine xnewL (N := 27) hk dX6_packKeywords_2 (by decide) (by decide) (Nat.le_of_ble_eq_true rfl) (Nat.le_of_ble_eq_true rfl) (Nat.le_of_ble_eq_true rfl) (by decide +kernel) ?_
  intro a1 ha1
  rw [show YX6_packKeywords_4.length = 4 from rfl] at ha1 ⊢
  refine xlay (lay' := X6_packKeywords_y1) rfl ?_
  refine xastore_n hk dX6_packKeywords_4 (by decide) ?_
  refine xiconst (v := 0) hk dX6_packKeywords_5 (by decide) ?_
  refine xistore_n hk dX6_packKeywords_6 (by decide) ?_
  refine xiconst (v := 0) hk dX6_packKeywords_7 (by decide) ?_
  refine xistore_n hk dX6_packKeywords_8 (by decide) ?_
  have loop9 : ∀ (n9 : Nat) (l1 : Int32) (l2 : Int32) (x : XS), i_X6_packKeywords_L9   n9 l1 l2 x = some u → Wx k 1 27 X6_packKeywords_y1 a1 x 9 [(0, .ref (a1 4)), (1, .int l1), (2, .int l2)] [] := by
    intro n9
    induction n9 with
    | zero => intro l1 l2 x h; rw [i_X6_packKeywords_L9] at h; cases h
    | succ n9 ih9 =>
      intro l1 l2 x h
      rw [i_X6_packKeywords_L9] at h
      refine xiload_n hk dX6_packKeywords_9 rfl ?_
      refine xldcT (i := 29) hk dX6_packKeywords_10 ⟨by decide +kernel, by decide +kernel⟩ (by decide) ?_
      refine xcallT hk (c_length (i := 29) (by decide)) bJ0_length_8abf5 kX6_31 dX6_packKeywords_12 rfl (by decide) rfl rfl (by first | decide | omega) ⟨by decide, by decide⟩ (Nat.le_of_ble_eq_true rfl) (det ?_)
      refine xicmp_ge hk 59 dX6_packKeywords_15 (by decide) (fun h15 => ?_) (fun h15 => ?_)
      · rw [if_pos h15] at h
        refine xaload_n hk dX6_packKeywords_59 rfl ?_
        refine xaretZ hk he dX6_packKeywords_60 (Or.inr ⟨_, rfl⟩) ⟨Nat.le_of_ble_eq_true rfl, Nat.le_of_ble_eq_true rfl⟩ ?_
        obtain rfl := Option.some.inj h
        exact ⟨rfl, rfl, rfl, fun j hj => (ha1 j (by omega))⟩
      · rw [if_neg h15] at h
        refine xldcT (i := 29) hk dX6_packKeywords_18 ⟨by decide +kernel, by decide +kernel⟩ (by decide) ?_
        refine xiload_n hk dX6_packKeywords_20 rfl ?_
        obtain ⟨hi21, h⟩ := og_some h
        refine xcallT hk (c_charAt (i := 29) (by decide) (inB_v hi21)) bJ0_charAt_5068e kX6_37 dX6_packKeywords_21 rfl (by decide) rfl rfl (by first | decide | omega) ⟨by decide, by decide⟩ (Nat.le_of_ble_eq_true rfl) (det ?_)
        refine xistore_n hk dX6_packKeywords_24 (by decide) ?_
        refine xiload_n hk dX6_packKeywords_25 rfl ?_
        refine xbipush (v := 32) hk dX6_packKeywords_26 (by decide) ?_
        refine xicmp_ne hk 37 dX6_packKeywords_28 (by decide) (fun h28 => ?_) (fun h28 => ?_)
        · rw [if_neg h28] at h
          refine xiload_n hk dX6_packKeywords_37 rfl ?_
          refine xaload_n hk dX6_packKeywords_38 rfl ?_
          refine xalen (v := 27) hk dX6_packKeywords_39 rfl (by decide) rfl ?_
          refine xicmp_ge hk 53 dX6_packKeywords_40 (by decide) (fun h40 => ?_) (fun h40 => ?_)
          · rw [if_pos h40] at h
            refine xiinc (v := (l2 + 1)) hk dX6_packKeywords_53 rfl (by decide) rfl ?_
            refine xgoto hk 9 dX6_packKeywords_56 (by decide) ?_
            refine xsub [(0, .ref (a1 4)), (1, .int l1), (2, .int (l2 + 1))] rfl ?_
            exact ih9 _ _ _ h
          · rw [if_neg h40] at h
            refine xaload_n hk dX6_packKeywords_43 rfl ?_
            refine xiload_n hk dX6_packKeywords_44 rfl ?_
            refine xaload_n hk dX6_packKeywords_45 rfl ?_
            refine xiload_n hk dX6_packKeywords_46 rfl ?_
            obtain ⟨hi47, h⟩ := og_some h
            refine xlald hk dX6_packKeywords_47 rfl (inB_v hi47) ?_
            refine xiload_n hk dX6_packKeywords_48 rfl ?_
            refine xcallS hk c_X6_pack bX6_pack kX6_41 dX6_packKeywords_49 rfl rfl (by first | decide | omega) ⟨by decide, by decide⟩ (Nat.le_of_ble_eq_true rfl) (det ?_)
            obtain ⟨hi52, h⟩ := og_some h
            refine xlast hk dX6_packKeywords_52 rfl (inB_v hi52) ?_
            refine xiinc (v := (l2 + 1)) hk dX6_packKeywords_53 rfl (by decide) rfl ?_
            refine xgoto hk 9 dX6_packKeywords_56 (by decide) ?_
            refine xsub [(0, .ref (a1 4)), (1, .int l1), (2, .int (l2 + 1))] rfl ?_
            exact ih9 _ _ _ h
        · rw [if_pos h28] at h
          refine xiinc (v := (l1 + 1)) hk dX6_packKeywords_31 rfl (by decide) rfl ?_
          refine xgoto hk 53 dX6_packKeywords_34 (by decide) ?_
          refine xiinc (v := (l2 + 1)) hk dX6_packKeywords_53 rfl (by decide) rfl ?_
          refine xgoto hk 9 dX6_packKeywords_56 (by decide) ?_
          refine xsub [(0, .ref (a1 4)), (1, .int (l1 + 1)), (2, .int (l2 + 1))] rfl ?_
          exact ih9 _ _ _ h
  refine xsub [(0, .ref (a1 4)), (1, .int 0), (2, .int 0)] rfl ?_
  exact loop9 _ _ _ _ h

theorem pk_is : ∀ (n : Nat) (l1 l2 : Int32) (x y : XS), (i_X6_packKeywords_L9 n l1 l2 x).isSome = (i_X6_packKeywords_L9 n l1 l2 y).isSome
  | 0, _, _, _, _ => rfl
  | n + 1, l1, l2, x, y => by
    rw [i_X6_packKeywords_L9, i_X6_packKeywords_L9]
    unfold og
    repeat' split
    all_goals first | rfl | exact pk_is n _ _ _ _
def x00 : XS := (fun _ _ => 0, fun _ _ => 0)
theorem pk_is0 : (i_X6_packKeywords x00).isSome = true := by decide +kernel
def pkF (x : XS) : XS := (i_X6_packKeywords x).getD x
theorem pk_some {x : XS} : i_X6_packKeywords x = some (pkF x) := by
  have h : (i_X6_packKeywords x).isSome = true := (pk_is _ _ _ _ _).trans pk_is0
  unfold pkF
  cases hz : i_X6_packKeywords x with
  | none => rw [hz] at h; cases h
  | some u => rfl

def YX6_init_3 : List Kd := [.inl (8, [4, 2, 2, 2, 2, 2, 2, 2, 2, 2, 0]), .inl (5, [5, 0]), .inr (2, 2000), .inl (6, [2, 2, 2, 2, 0, 0, 1])]
def i_X6_init_3 (x : XS) : XS := (clr (clr (clr (pkF x) 5) 6) 7)
def X6_init_3_y1 : List Kd := [.inl (8, [4, 2, 2, 2, 2, 2, 2, 2, 2, 2, 0]), .inl (5, [5, 0]), .inr (2, 2000), .inl (6, [2, 2, 2, 2, 0, 0, 1]), .inr (1, 27)]
def X6_init_3_y2 : List Kd := [.inl (8, [4, 2, 2, 2, 2, 2, 2, 2, 2, 2, 0]), .inl (5, [5, 0]), .inr (2, 2000), .inl (6, [7, 2, 2, 2, 0, 0, 1]), .inr (1, 27)]
def X6_init_3_y3 : List Kd := [.inl (8, [4, 2, 2, 2, 2, 2, 2, 2, 2, 2, 0]), .inl (5, [5, 0]), .inr (2, 2000), .inl (6, [7, 2, 2, 2, 0, 0, 1]), .inr (1, 27), .inr (0, 401)]
def X6_init_3_y4 : List Kd := [.inl (8, [4, 2, 2, 2, 2, 2, 2, 2, 2, 2, 0]), .inl (5, [5, 0]), .inr (2, 2000), .inl (6, [7, 8, 2, 2, 0, 0, 1]), .inr (1, 27), .inr (0, 401)]
def X6_init_3_y5 : List Kd := [.inl (8, [4, 2, 2, 2, 2, 2, 2, 2, 2, 2, 0]), .inl (5, [5, 0]), .inr (2, 2000), .inl (6, [7, 8, 2, 2, 0, 0, 1]), .inr (1, 27), .inr (0, 401), .inr (0, 401)]
def X6_init_3_y6 : List Kd := [.inl (8, [4, 2, 2, 2, 2, 2, 2, 2, 2, 2, 0]), .inl (5, [5, 0]), .inr (2, 2000), .inl (6, [7, 8, 9, 2, 0, 0, 1]), .inr (1, 27), .inr (0, 401), .inr (0, 401)]
def X6_init_3_y7 : List Kd := [.inl (8, [4, 2, 2, 2, 2, 2, 2, 2, 2, 2, 0]), .inl (5, [5, 0]), .inr (2, 2000), .inl (6, [7, 8, 9, 2, 0, 0, 1]), .inr (1, 27), .inr (0, 401), .inr (0, 401), .inr (1, 401)]
def X6_init_3_y8 : List Kd := [.inl (8, [4, 2, 2, 2, 2, 2, 2, 2, 2, 2, 0]), .inl (5, [5, 0]), .inr (2, 2000), .inl (6, [7, 8, 9, 10, 0, 0, 1]), .inr (1, 27), .inr (0, 401), .inr (0, 401), .inr (1, 401)]
set_option maxHeartbeats 4000000 in
set_option maxRecDepth 100000 in
theorem c_X6_init_3 {g : Gx} {a : Nat → Nat} {x : XS}  : Mz g yX6_init cX6_init 1 none 6 4 1230 YX6_init_3 a x [.ref (a 3)] (fun v lay' a1 x' => v = none ∧ lay' = X6_init_3_y8 ∧ x' = i_X6_init_3 x ∧ ∀ j, (j < 4 ∨ 8 ≤ j) → a1 j = a j) := by
  refine Mz_of (by decide +kernel) (Nat.le_of_ble_eq_true rfl) ?_
  intro k hk he hg
  subst hg
  refine xaload_n hk dX6_init_0 rfl ?_
  refine xobjInit hk dX6_init_1 kX6_3 (by first | decide | omega) (Nat.le_of_ble_eq_true rfl) ?_
  refine xaload_n hk dX6_init_4 rfl ?_
  refine xlay (lay' := YX6_packKeywords_4) rfl ?_
  refine xcallSZ hk (c_X6_packKeywords pk_some) ⟨⟨gw_mem 61 (by decide +kernel) (by decide +kernel), gw_mem 15 (by decide +kernel) (by decide +kernel), by decide +kernel, by decide⟩, (gw_mem 60 (by decide +kernel) (by decide +kernel))⟩ kX6_9 dX6_init_5 rfl rfl (by first | decide | omega) ⟨Nat.le_of_ble_eq_true rfl, Nat.le_of_ble_eq_true rfl⟩ (Nat.le_of_ble_eq_true rfl) ?_
  rintro _ _ a1 _ ⟨rfl, rfl, rfl, ha1⟩
  refine xlay (lay' := X6_init_3_y1) rfl ?_
  rw [← ha1 3 (Or.inl (by decide))]
  refine xputF (q := 3) (ci := 6) (f := 0) (j := 4) hk dX6_init_8 rfl (by decide) rfl (by decide) kX6_15 rfl rfl (tyX6_ok 0 (by decide)) (fun _ => ⟨rfl, rfl⟩) ?_
  refine xlay (lay' := X6_init_3_y2) rfl ?_
  refine xaload_n hk dX6_init_11 rfl ?_
  refine xsipush (v := 401) hk dX6_init_12 (by decide) ?_
  refine xnewI (N := 401) hk dX6_init_15 (by decide) (by decide) (Nat.le_of_ble_eq_true rfl) (Nat.le_of_ble_eq_true rfl) (Nat.le_of_ble_eq_true rfl) (by decide +kernel) ?_
  intro a2 ha2
  rw [show X6_init_3_y2.length = 5 from rfl] at ha2 ⊢
  refine xlay (lay' := X6_init_3_y3) rfl ?_
  rw [← ha2 3 (by decide)]
  refine xputF (q := 3) (ci := 6) (f := 1) (j := 5) hk dX6_init_17 rfl (by decide) rfl (by decide) kX6_19 rfl rfl (tyX6_ok 1 (by decide)) (fun _ => ⟨rfl, rfl⟩) ?_
  refine xlay (lay' := X6_init_3_y4) rfl ?_
  refine xaload_n hk dX6_init_20 rfl ?_
  refine xsipush (v := 401) hk dX6_init_21 (by decide) ?_
  refine xnewI (N := 401) hk dX6_init_24 (by decide) (by decide) (Nat.le_of_ble_eq_true rfl) (Nat.le_of_ble_eq_true rfl) (Nat.le_of_ble_eq_true rfl) (by decide +kernel) ?_
  intro a3 ha3
  rw [show X6_init_3_y4.length = 6 from rfl] at ha3 ⊢
  refine xlay (lay' := X6_init_3_y5) rfl ?_
  rw [← ha3 3 (by decide)]
  refine xputF (q := 3) (ci := 6) (f := 2) (j := 6) hk dX6_init_26 rfl (by decide) rfl (by decide) kX6_23 rfl rfl (tyX6_ok 2 (by decide)) (fun _ => ⟨rfl, rfl⟩) ?_
  refine xlay (lay' := X6_init_3_y6) rfl ?_
  refine xaload_n hk dX6_init_29 rfl ?_
  refine xsipush (v := 401) hk dX6_init_30 (by decide) ?_
  refine xnewL (N := 401) hk dX6_init_33 (by decide) (by decide) (Nat.le_of_ble_eq_true rfl) (Nat.le_of_ble_eq_true rfl) (Nat.le_of_ble_eq_true rfl) (by decide +kernel) ?_
  intro a4 ha4
  rw [show X6_init_3_y6.length = 7 from rfl] at ha4 ⊢
  refine xlay (lay' := X6_init_3_y7) rfl ?_
  rw [← ha4 3 (by decide)]
  refine xputF (q := 3) (ci := 6) (f := 3) (j := 7) hk dX6_init_35 rfl (by decide) rfl (by decide) kX6_26 rfl rfl (tyX6_ok 3 (by decide)) (fun _ => ⟨rfl, rfl⟩) ?_
  refine xlay (lay' := X6_init_3_y8) rfl ?_
  refine xvretZ hk he dX6_init_38 ⟨Nat.le_of_ble_eq_true rfl, Nat.le_of_ble_eq_true rfl⟩ ?_
  exact ⟨rfl, rfl, rfl, fun j hj => ((ha4 j (by omega)).trans ((ha3 j (by omega)).trans ((ha2 j (by omega)).trans (ha1 j (by omega)))))⟩

def YX0_init_8 : List Kd := [.inl (8, [4, 6, 2, 2, 2, 2, 2, 2, 2, 2, 0]), .inl (5, [5, 0]), .inr (2, 2000), .inl (6, [7, 8, 9, 10, 0, 0, 1]), .inr (1, 27), .inr (0, 401), .inr (0, 401), .inr (1, 401), .inl (0, [0, 0, 2, 2, 2, 2, 2, 0, 2, 2, 2, 2, 0, 2, 2, 2])]
def i_X0_init_8 (x : XS) : XS := (clr (clr (clr (clr (clr (clr (clr (clr (clr (clr (clr (clr x 9) 10) 11) 12) 13) 14) 15) 16) 17) 18) 19) 20)
def X0_init_8_y1 : List Kd := [.inl (8, [4, 6, 2, 2, 2, 2, 2, 2, 2, 2, 0]), .inl (5, [5, 0]), .inr (2, 2000), .inl (6, [7, 8, 9, 10, 0, 0, 1]), .inr (1, 27), .inr (0, 401), .inr (0, 401), .inr (1, 401), .inl (0, [0, 0, 2, 2, 2, 2, 2, 0, 2, 2, 2, 2, 0, 2, 2, 2]), .inr (0, 20)]
def X0_init_8_y2 : List Kd := [.inl (8, [4, 6, 2, 2, 2, 2, 2, 2, 2, 2, 0]), .inl (5, [5, 0]), .inr (2, 2000), .inl (6, [7, 8, 9, 10, 0, 0, 1]), .inr (1, 27), .inr (0, 401), .inr (0, 401), .inr (1, 401), .inl (0, [0, 0, 12, 2, 2, 2, 2, 0, 2, 2, 2, 2, 0, 2, 2, 2]), .inr (0, 20)]
def X0_init_8_y3 : List Kd := [.inl (8, [4, 6, 2, 2, 2, 2, 2, 2, 2, 2, 0]), .inl (5, [5, 0]), .inr (2, 2000), .inl (6, [7, 8, 9, 10, 0, 0, 1]), .inr (1, 27), .inr (0, 401), .inr (0, 401), .inr (1, 401), .inl (0, [0, 0, 12, 2, 2, 2, 2, 0, 2, 2, 2, 2, 0, 2, 2, 2]), .inr (0, 20), .inr (0, 20)]
def X0_init_8_y4 : List Kd := [.inl (8, [4, 6, 2, 2, 2, 2, 2, 2, 2, 2, 0]), .inl (5, [5, 0]), .inr (2, 2000), .inl (6, [7, 8, 9, 10, 0, 0, 1]), .inr (1, 27), .inr (0, 401), .inr (0, 401), .inr (1, 401), .inl (0, [0, 0, 12, 13, 2, 2, 2, 0, 2, 2, 2, 2, 0, 2, 2, 2]), .inr (0, 20), .inr (0, 20)]
def X0_init_8_y5 : List Kd := [.inl (8, [4, 6, 2, 2, 2, 2, 2, 2, 2, 2, 0]), .inl (5, [5, 0]), .inr (2, 2000), .inl (6, [7, 8, 9, 10, 0, 0, 1]), .inr (1, 27), .inr (0, 401), .inr (0, 401), .inr (1, 401), .inl (0, [0, 0, 12, 13, 2, 2, 2, 0, 2, 2, 2, 2, 0, 2, 2, 2]), .inr (0, 20), .inr (0, 20), .inr (0, 20)]
def X0_init_8_y6 : List Kd := [.inl (8, [4, 6, 2, 2, 2, 2, 2, 2, 2, 2, 0]), .inl (5, [5, 0]), .inr (2, 2000), .inl (6, [7, 8, 9, 10, 0, 0, 1]), .inr (1, 27), .inr (0, 401), .inr (0, 401), .inr (1, 401), .inl (0, [0, 0, 12, 13, 14, 2, 2, 0, 2, 2, 2, 2, 0, 2, 2, 2]), .inr (0, 20), .inr (0, 20), .inr (0, 20)]
def X0_init_8_y7 : List Kd := [.inl (8, [4, 6, 2, 2, 2, 2, 2, 2, 2, 2, 0]), .inl (5, [5, 0]), .inr (2, 2000), .inl (6, [7, 8, 9, 10, 0, 0, 1]), .inr (1, 27), .inr (0, 401), .inr (0, 401), .inr (1, 401), .inl (0, [0, 0, 12, 13, 14, 2, 2, 0, 2, 2, 2, 2, 0, 2, 2, 2]), .inr (0, 20), .inr (0, 20), .inr (0, 20), .inr (0, 20)]
def X0_init_8_y8 : List Kd := [.inl (8, [4, 6, 2, 2, 2, 2, 2, 2, 2, 2, 0]), .inl (5, [5, 0]), .inr (2, 2000), .inl (6, [7, 8, 9, 10, 0, 0, 1]), .inr (1, 27), .inr (0, 401), .inr (0, 401), .inr (1, 401), .inl (0, [0, 0, 12, 13, 14, 15, 2, 0, 2, 2, 2, 2, 0, 2, 2, 2]), .inr (0, 20), .inr (0, 20), .inr (0, 20), .inr (0, 20)]
def X0_init_8_y9 : List Kd := [.inl (8, [4, 6, 2, 2, 2, 2, 2, 2, 2, 2, 0]), .inl (5, [5, 0]), .inr (2, 2000), .inl (6, [7, 8, 9, 10, 0, 0, 1]), .inr (1, 27), .inr (0, 401), .inr (0, 401), .inr (1, 401), .inl (0, [0, 0, 12, 13, 14, 15, 2, 0, 2, 2, 2, 2, 0, 2, 2, 2]), .inr (0, 20), .inr (0, 20), .inr (0, 20), .inr (0, 20), .inr (0, 20)]
def X0_init_8_y10 : List Kd := [.inl (8, [4, 6, 2, 2, 2, 2, 2, 2, 2, 2, 0]), .inl (5, [5, 0]), .inr (2, 2000), .inl (6, [7, 8, 9, 10, 0, 0, 1]), .inr (1, 27), .inr (0, 401), .inr (0, 401), .inr (1, 401), .inl (0, [0, 0, 12, 13, 14, 15, 16, 0, 2, 2, 2, 2, 0, 2, 2, 2]), .inr (0, 20), .inr (0, 20), .inr (0, 20), .inr (0, 20), .inr (0, 20)]
def X0_init_8_y11 : List Kd := [.inl (8, [4, 6, 2, 2, 2, 2, 2, 2, 2, 2, 0]), .inl (5, [5, 0]), .inr (2, 2000), .inl (6, [7, 8, 9, 10, 0, 0, 1]), .inr (1, 27), .inr (0, 401), .inr (0, 401), .inr (1, 401), .inl (0, [0, 0, 12, 13, 14, 15, 16, 0, 2, 2, 2, 2, 0, 2, 2, 2]), .inr (0, 20), .inr (0, 20), .inr (0, 20), .inr (0, 20), .inr (0, 20), .inr (0, 16)]
def X0_init_8_y12 : List Kd := [.inl (8, [4, 6, 2, 2, 2, 2, 2, 2, 2, 2, 0]), .inl (5, [5, 0]), .inr (2, 2000), .inl (6, [7, 8, 9, 10, 0, 0, 1]), .inr (1, 27), .inr (0, 401), .inr (0, 401), .inr (1, 401), .inl (0, [0, 0, 12, 13, 14, 15, 16, 0, 17, 2, 2, 2, 0, 2, 2, 2]), .inr (0, 20), .inr (0, 20), .inr (0, 20), .inr (0, 20), .inr (0, 20), .inr (0, 16)]
def X0_init_8_y13 : List Kd := [.inl (8, [4, 6, 2, 2, 2, 2, 2, 2, 2, 2, 0]), .inl (5, [5, 0]), .inr (2, 2000), .inl (6, [7, 8, 9, 10, 0, 0, 1]), .inr (1, 27), .inr (0, 401), .inr (0, 401), .inr (1, 401), .inl (0, [0, 0, 12, 13, 14, 15, 16, 0, 17, 2, 2, 2, 0, 2, 2, 2]), .inr (0, 20), .inr (0, 20), .inr (0, 20), .inr (0, 20), .inr (0, 20), .inr (0, 16), .inr (0, 16)]
def X0_init_8_y14 : List Kd := [.inl (8, [4, 6, 2, 2, 2, 2, 2, 2, 2, 2, 0]), .inl (5, [5, 0]), .inr (2, 2000), .inl (6, [7, 8, 9, 10, 0, 0, 1]), .inr (1, 27), .inr (0, 401), .inr (0, 401), .inr (1, 401), .inl (0, [0, 0, 12, 13, 14, 15, 16, 0, 17, 18, 2, 2, 0, 2, 2, 2]), .inr (0, 20), .inr (0, 20), .inr (0, 20), .inr (0, 20), .inr (0, 20), .inr (0, 16), .inr (0, 16)]
def X0_init_8_y15 : List Kd := [.inl (8, [4, 6, 2, 2, 2, 2, 2, 2, 2, 2, 0]), .inl (5, [5, 0]), .inr (2, 2000), .inl (6, [7, 8, 9, 10, 0, 0, 1]), .inr (1, 27), .inr (0, 401), .inr (0, 401), .inr (1, 401), .inl (0, [0, 0, 12, 13, 14, 15, 16, 0, 17, 18, 2, 2, 0, 2, 2, 2]), .inr (0, 20), .inr (0, 20), .inr (0, 20), .inr (0, 20), .inr (0, 20), .inr (0, 16), .inr (0, 16), .inr (0, 16)]
def X0_init_8_y16 : List Kd := [.inl (8, [4, 6, 2, 2, 2, 2, 2, 2, 2, 2, 0]), .inl (5, [5, 0]), .inr (2, 2000), .inl (6, [7, 8, 9, 10, 0, 0, 1]), .inr (1, 27), .inr (0, 401), .inr (0, 401), .inr (1, 401), .inl (0, [0, 0, 12, 13, 14, 15, 16, 0, 17, 18, 19, 2, 0, 2, 2, 2]), .inr (0, 20), .inr (0, 20), .inr (0, 20), .inr (0, 20), .inr (0, 20), .inr (0, 16), .inr (0, 16), .inr (0, 16)]
def X0_init_8_y17 : List Kd := [.inl (8, [4, 6, 2, 2, 2, 2, 2, 2, 2, 2, 0]), .inl (5, [5, 0]), .inr (2, 2000), .inl (6, [7, 8, 9, 10, 0, 0, 1]), .inr (1, 27), .inr (0, 401), .inr (0, 401), .inr (1, 401), .inl (0, [0, 0, 12, 13, 14, 15, 16, 0, 17, 18, 19, 2, 0, 2, 2, 2]), .inr (0, 20), .inr (0, 20), .inr (0, 20), .inr (0, 20), .inr (0, 20), .inr (0, 16), .inr (0, 16), .inr (0, 16), .inr (0, 16)]
def X0_init_8_y18 : List Kd := [.inl (8, [4, 6, 2, 2, 2, 2, 2, 2, 2, 2, 0]), .inl (5, [5, 0]), .inr (2, 2000), .inl (6, [7, 8, 9, 10, 0, 0, 1]), .inr (1, 27), .inr (0, 401), .inr (0, 401), .inr (1, 401), .inl (0, [0, 0, 12, 13, 14, 15, 16, 0, 17, 18, 19, 20, 0, 2, 2, 2]), .inr (0, 20), .inr (0, 20), .inr (0, 20), .inr (0, 20), .inr (0, 20), .inr (0, 16), .inr (0, 16), .inr (0, 16), .inr (0, 16)]
def X0_init_8_y19 : List Kd := [.inl (8, [4, 6, 2, 2, 2, 2, 2, 2, 2, 2, 0]), .inl (5, [5, 0]), .inr (2, 2000), .inl (6, [7, 8, 9, 10, 0, 0, 1]), .inr (1, 27), .inr (0, 401), .inr (0, 401), .inr (1, 401), .inl (0, [0, 0, 12, 13, 14, 15, 16, 0, 17, 18, 19, 20, 0, 2, 2, 2]), .inr (0, 20), .inr (0, 20), .inr (0, 20), .inr (0, 20), .inr (0, 20), .inr (0, 16), .inr (0, 16), .inr (0, 16), .inr (0, 16), .inr (0, 400)]
def X0_init_8_y20 : List Kd := [.inl (8, [4, 6, 2, 2, 2, 2, 2, 2, 2, 2, 0]), .inl (5, [5, 0]), .inr (2, 2000), .inl (6, [7, 8, 9, 10, 0, 0, 1]), .inr (1, 27), .inr (0, 401), .inr (0, 401), .inr (1, 401), .inl (0, [0, 0, 12, 13, 14, 15, 16, 0, 17, 18, 19, 20, 0, 21, 2, 2]), .inr (0, 20), .inr (0, 20), .inr (0, 20), .inr (0, 20), .inr (0, 20), .inr (0, 16), .inr (0, 16), .inr (0, 16), .inr (0, 16), .inr (0, 400)]
def X0_init_8_y21 : List Kd := [.inl (8, [4, 6, 2, 2, 2, 2, 2, 2, 2, 2, 0]), .inl (5, [5, 0]), .inr (2, 2000), .inl (6, [7, 8, 9, 10, 0, 0, 1]), .inr (1, 27), .inr (0, 401), .inr (0, 401), .inr (1, 401), .inl (0, [0, 0, 12, 13, 14, 15, 16, 0, 17, 18, 19, 20, 0, 21, 2, 2]), .inr (0, 20), .inr (0, 20), .inr (0, 20), .inr (0, 20), .inr (0, 20), .inr (0, 16), .inr (0, 16), .inr (0, 16), .inr (0, 16), .inr (0, 400), .inr (0, 400)]
def X0_init_8_y22 : List Kd := [.inl (8, [4, 6, 2, 2, 2, 2, 2, 2, 2, 2, 0]), .inl (5, [5, 0]), .inr (2, 2000), .inl (6, [7, 8, 9, 10, 0, 0, 1]), .inr (1, 27), .inr (0, 401), .inr (0, 401), .inr (1, 401), .inl (0, [0, 0, 12, 13, 14, 15, 16, 0, 17, 18, 19, 20, 0, 21, 22, 2]), .inr (0, 20), .inr (0, 20), .inr (0, 20), .inr (0, 20), .inr (0, 20), .inr (0, 16), .inr (0, 16), .inr (0, 16), .inr (0, 16), .inr (0, 400), .inr (0, 400)]
def X0_init_8_y23 : List Kd := [.inl (8, [4, 6, 2, 2, 2, 2, 2, 2, 2, 2, 0]), .inl (5, [5, 0]), .inr (2, 2000), .inl (6, [7, 8, 9, 10, 0, 0, 1]), .inr (1, 27), .inr (0, 401), .inr (0, 401), .inr (1, 401), .inl (0, [0, 0, 12, 13, 14, 15, 16, 0, 17, 18, 19, 20, 0, 21, 22, 2]), .inr (0, 20), .inr (0, 20), .inr (0, 20), .inr (0, 20), .inr (0, 20), .inr (0, 16), .inr (0, 16), .inr (0, 16), .inr (0, 16), .inr (0, 400), .inr (0, 400), .inr (0, 400)]
def X0_init_8_y24 : List Kd := [.inl (8, [4, 6, 2, 2, 2, 2, 2, 2, 2, 2, 0]), .inl (5, [5, 0]), .inr (2, 2000), .inl (6, [7, 8, 9, 10, 0, 0, 1]), .inr (1, 27), .inr (0, 401), .inr (0, 401), .inr (1, 401), .inl (0, [0, 0, 12, 13, 14, 15, 16, 0, 17, 18, 19, 20, 0, 21, 22, 23]), .inr (0, 20), .inr (0, 20), .inr (0, 20), .inr (0, 20), .inr (0, 20), .inr (0, 16), .inr (0, 16), .inr (0, 16), .inr (0, 16), .inr (0, 400), .inr (0, 400), .inr (0, 400)]
set_option maxHeartbeats 4000000 in
set_option maxRecDepth 100000 in
theorem c_X0_init_8 {g : Gx} {a : Nat → Nat} {x : XS}  : Mz g yX0_init cX0_init 1 none 2 12 1364 YX0_init_8 a x [.ref (a 8)] (fun v lay' a1 x' => v = none ∧ lay' = X0_init_8_y24 ∧ x' = i_X0_init_8 x ∧ ∀ j, (j < 9 ∨ 21 ≤ j) → a1 j = a j) := by
  refine Mz_of (by decide +kernel) (Nat.le_of_ble_eq_true rfl) ?_
  intro k hk he hg
  subst hg
  refine xaload_n hk dX0_init_0 rfl ?_
  refine xobjInit hk dX0_init_1 kX0_3 (by first | decide | omega) (Nat.le_of_ble_eq_true rfl) ?_
  refine xaload_n hk dX0_init_4 rfl ?_
  refine xbipush (v := 20) hk dX0_init_5 (by decide) ?_
  refine xnewI (N := 20) hk dX0_init_7 (by decide) (by decide) (Nat.le_of_ble_eq_true rfl) (Nat.le_of_ble_eq_true rfl) (Nat.le_of_ble_eq_true rfl) (by decide +kernel) ?_
  intro a1 ha1
  rw [show YX0_init_8.length = 9 from rfl] at ha1 ⊢
  refine xlay (lay' := X0_init_8_y1) rfl ?_
  rw [← ha1 8 (by decide)]
  refine xputF (q := 8) (ci := 0) (f := 2) (j := 9) hk dX0_init_9 rfl (by decide) rfl (by decide) kX0_9 rfl rfl (tyX0_ok 2 (by decide)) (fun _ => ⟨rfl, rfl⟩) ?_
  refine xlay (lay' := X0_init_8_y2) rfl ?_
  refine xaload_n hk dX0_init_12 rfl ?_
  refine xbipush (v := 20) hk dX0_init_13 (by decide) ?_
  refine xnewI (N := 20) hk dX0_init_15 (by decide) (by decide) (Nat.le_of_ble_eq_true rfl) (Nat.le_of_ble_eq_true rfl) (Nat.le_of_ble_eq_true rfl) (by decide +kernel) ?_
  intro a2 ha2
  rw [show X0_init_8_y2.length = 10 from rfl] at ha2 ⊢
  refine xlay (lay' := X0_init_8_y3) rfl ?_
  rw [← ha2 8 (by decide)]
  refine xputF (q := 8) (ci := 0) (f := 3) (j := 10) hk dX0_init_17 rfl (by decide) rfl (by decide) kX0_15 rfl rfl (tyX0_ok 3 (by decide)) (fun _ => ⟨rfl, rfl⟩) ?_
  refine xlay (lay' := X0_init_8_y4) rfl ?_
  refine xaload_n hk dX0_init_20 rfl ?_
  refine xbipush (v := 20) hk dX0_init_21 (by decide) ?_
  refine xnewI (N := 20) hk dX0_init_23 (by decide) (by decide) (Nat.le_of_ble_eq_true rfl) (Nat.le_of_ble_eq_true rfl) (Nat.le_of_ble_eq_true rfl) (by decide +kernel) ?_
  intro a3 ha3
  rw [show X0_init_8_y4.length = 11 from rfl] at ha3 ⊢
  refine xlay (lay' := X0_init_8_y5) rfl ?_
  rw [← ha3 8 (by decide)]
  refine xputF (q := 8) (ci := 0) (f := 4) (j := 11) hk dX0_init_25 rfl (by decide) rfl (by decide) kX0_18 rfl rfl (tyX0_ok 4 (by decide)) (fun _ => ⟨rfl, rfl⟩) ?_
  refine xlay (lay' := X0_init_8_y6) rfl ?_
  refine xaload_n hk dX0_init_28 rfl ?_
  refine xbipush (v := 20) hk dX0_init_29 (by decide) ?_
  refine xnewI (N := 20) hk dX0_init_31 (by decide) (by decide) (Nat.le_of_ble_eq_true rfl) (Nat.le_of_ble_eq_true rfl) (Nat.le_of_ble_eq_true rfl) (by decide +kernel) ?_
  intro a4 ha4
  rw [show X0_init_8_y6.length = 12 from rfl] at ha4 ⊢
  refine xlay (lay' := X0_init_8_y7) rfl ?_
  rw [← ha4 8 (by decide)]
  refine xputF (q := 8) (ci := 0) (f := 5) (j := 12) hk dX0_init_33 rfl (by decide) rfl (by decide) kX0_21 rfl rfl (tyX0_ok 5 (by decide)) (fun _ => ⟨rfl, rfl⟩) ?_
  refine xlay (lay' := X0_init_8_y8) rfl ?_
  refine xaload_n hk dX0_init_36 rfl ?_
  refine xbipush (v := 20) hk dX0_init_37 (by decide) ?_
  refine xnewI (N := 20) hk dX0_init_39 (by decide) (by decide) (Nat.le_of_ble_eq_true rfl) (Nat.le_of_ble_eq_true rfl) (Nat.le_of_ble_eq_true rfl) (by decide +kernel) ?_
  intro a5 ha5
  rw [show X0_init_8_y8.length = 13 from rfl] at ha5 ⊢
  refine xlay (lay' := X0_init_8_y9) rfl ?_
  rw [← ha5 8 (by decide)]
  refine xputF (q := 8) (ci := 0) (f := 6) (j := 13) hk dX0_init_41 rfl (by decide) rfl (by decide) kX0_24 rfl rfl (tyX0_ok 6 (by decide)) (fun _ => ⟨rfl, rfl⟩) ?_
  refine xlay (lay' := X0_init_8_y10) rfl ?_
  refine xaload_n hk dX0_init_44 rfl ?_
  refine xbipush (v := 16) hk dX0_init_45 (by decide) ?_
  refine xnewI (N := 16) hk dX0_init_47 (by decide) (by decide) (Nat.le_of_ble_eq_true rfl) (Nat.le_of_ble_eq_true rfl) (Nat.le_of_ble_eq_true rfl) (by decide +kernel) ?_
  intro a6 ha6
  rw [show X0_init_8_y10.length = 14 from rfl] at ha6 ⊢
  refine xlay (lay' := X0_init_8_y11) rfl ?_
  rw [← ha6 8 (by decide)]
  refine xputF (q := 8) (ci := 0) (f := 8) (j := 14) hk dX0_init_49 rfl (by decide) rfl (by decide) kX0_27 rfl rfl (tyX0_ok 8 (by decide)) (fun _ => ⟨rfl, rfl⟩) ?_
  refine xlay (lay' := X0_init_8_y12) rfl ?_
  refine xaload_n hk dX0_init_52 rfl ?_
  refine xbipush (v := 16) hk dX0_init_53 (by decide) ?_
  refine xnewI (N := 16) hk dX0_init_55 (by decide) (by decide) (Nat.le_of_ble_eq_true rfl) (Nat.le_of_ble_eq_true rfl) (Nat.le_of_ble_eq_true rfl) (by decide +kernel) ?_
  intro a7 ha7
  rw [show X0_init_8_y12.length = 15 from rfl] at ha7 ⊢
  refine xlay (lay' := X0_init_8_y13) rfl ?_
  rw [← ha7 8 (by decide)]
  refine xputF (q := 8) (ci := 0) (f := 9) (j := 15) hk dX0_init_57 rfl (by decide) rfl (by decide) kX0_30 rfl rfl (tyX0_ok 9 (by decide)) (fun _ => ⟨rfl, rfl⟩) ?_
  refine xlay (lay' := X0_init_8_y14) rfl ?_
  refine xaload_n hk dX0_init_60 rfl ?_
  refine xbipush (v := 16) hk dX0_init_61 (by decide) ?_
  refine xnewI (N := 16) hk dX0_init_63 (by decide) (by decide) (Nat.le_of_ble_eq_true rfl) (Nat.le_of_ble_eq_true rfl) (Nat.le_of_ble_eq_true rfl) (by decide +kernel) ?_
  intro a8 ha8
  rw [show X0_init_8_y14.length = 16 from rfl] at ha8 ⊢
  refine xlay (lay' := X0_init_8_y15) rfl ?_
  rw [← ha8 8 (by decide)]
  refine xputF (q := 8) (ci := 0) (f := 10) (j := 16) hk dX0_init_65 rfl (by decide) rfl (by decide) kX0_33 rfl rfl (tyX0_ok 10 (by decide)) (fun _ => ⟨rfl, rfl⟩) ?_
  refine xlay (lay' := X0_init_8_y16) rfl ?_
  refine xaload_n hk dX0_init_68 rfl ?_
  refine xbipush (v := 16) hk dX0_init_69 (by decide) ?_
  refine xnewI (N := 16) hk dX0_init_71 (by decide) (by decide) (Nat.le_of_ble_eq_true rfl) (Nat.le_of_ble_eq_true rfl) (Nat.le_of_ble_eq_true rfl) (by decide +kernel) ?_
  intro a9 ha9
  rw [show X0_init_8_y16.length = 17 from rfl] at ha9 ⊢
  refine xlay (lay' := X0_init_8_y17) rfl ?_
  rw [← ha9 8 (by decide)]
  refine xputF (q := 8) (ci := 0) (f := 11) (j := 17) hk dX0_init_73 rfl (by decide) rfl (by decide) kX0_36 rfl rfl (tyX0_ok 11 (by decide)) (fun _ => ⟨rfl, rfl⟩) ?_
  refine xlay (lay' := X0_init_8_y18) rfl ?_
  refine xaload_n hk dX0_init_76 rfl ?_
  refine xsipush (v := 400) hk dX0_init_77 (by decide) ?_
  refine xnewI (N := 400) hk dX0_init_80 (by decide) (by decide) (Nat.le_of_ble_eq_true rfl) (Nat.le_of_ble_eq_true rfl) (Nat.le_of_ble_eq_true rfl) (by decide +kernel) ?_
  intro a10 ha10
  rw [show X0_init_8_y18.length = 18 from rfl] at ha10 ⊢
  refine xlay (lay' := X0_init_8_y19) rfl ?_
  rw [← ha10 8 (by decide)]
  refine xputF (q := 8) (ci := 0) (f := 13) (j := 18) hk dX0_init_82 rfl (by decide) rfl (by decide) kX0_39 rfl rfl (tyX0_ok 13 (by decide)) (fun _ => ⟨rfl, rfl⟩) ?_
  refine xlay (lay' := X0_init_8_y20) rfl ?_
  refine xaload_n hk dX0_init_85 rfl ?_
  refine xsipush (v := 400) hk dX0_init_86 (by decide) ?_
  refine xnewI (N := 400) hk dX0_init_89 (by decide) (by decide) (Nat.le_of_ble_eq_true rfl) (Nat.le_of_ble_eq_true rfl) (Nat.le_of_ble_eq_true rfl) (by decide +kernel) ?_
  intro a11 ha11
  rw [show X0_init_8_y20.length = 19 from rfl] at ha11 ⊢
  refine xlay (lay' := X0_init_8_y21) rfl ?_
  rw [← ha11 8 (by decide)]
  refine xputF (q := 8) (ci := 0) (f := 14) (j := 19) hk dX0_init_91 rfl (by decide) rfl (by decide) kX0_42 rfl rfl (tyX0_ok 14 (by decide)) (fun _ => ⟨rfl, rfl⟩) ?_
  refine xlay (lay' := X0_init_8_y22) rfl ?_
  refine xaload_n hk dX0_init_94 rfl ?_
  refine xsipush (v := 400) hk dX0_init_95 (by decide) ?_
  refine xnewI (N := 400) hk dX0_init_98 (by decide) (by decide) (Nat.le_of_ble_eq_true rfl) (Nat.le_of_ble_eq_true rfl) (Nat.le_of_ble_eq_true rfl) (by decide +kernel) ?_
  intro a12 ha12
  rw [show X0_init_8_y22.length = 20 from rfl] at ha12 ⊢
  refine xlay (lay' := X0_init_8_y23) rfl ?_
  rw [← ha12 8 (by decide)]
  refine xputF (q := 8) (ci := 0) (f := 15) (j := 20) hk dX0_init_100 rfl (by decide) rfl (by decide) kX0_45 rfl rfl (tyX0_ok 15 (by decide)) (fun _ => ⟨rfl, rfl⟩) ?_
  refine xlay (lay' := X0_init_8_y24) rfl ?_
  refine xvretZ hk he dX0_init_103 ⟨Nat.le_of_ble_eq_true rfl, Nat.le_of_ble_eq_true rfl⟩ ?_
  exact ⟨rfl, rfl, rfl, fun j hj => ((ha12 j (by omega)).trans ((ha11 j (by omega)).trans ((ha10 j (by omega)).trans ((ha9 j (by omega)).trans ((ha8 j (by omega)).trans ((ha7 j (by omega)).trans ((ha6 j (by omega)).trans ((ha5 j (by omega)).trans ((ha4 j (by omega)).trans ((ha3 j (by omega)).trans ((ha2 j (by omega)).trans (ha1 j (by omega)))))))))))))⟩

def YX0_init_21 : List Kd := [.inl (8, [4, 6, 11, 2, 2, 2, 2, 2, 2, 2, 0]), .inl (5, [5, 0]), .inr (2, 2000), .inl (6, [7, 8, 9, 10, 0, 0, 1]), .inr (1, 27), .inr (0, 401), .inr (0, 401), .inr (1, 401), .inl (0, [0, 0, 12, 13, 14, 15, 16, 0, 17, 18, 19, 20, 0, 21, 22, 23]), .inr (0, 20), .inr (0, 20), .inr (0, 20), .inr (0, 20), .inr (0, 20), .inr (0, 16), .inr (0, 16), .inr (0, 16), .inr (0, 16), .inr (0, 400), .inr (0, 400), .inr (0, 400), .inl (0, [0, 0, 2, 2, 2, 2, 2, 0, 2, 2, 2, 2, 0, 2, 2, 2])]
def i_X0_init_21 (x : XS) : XS := (clr (clr (clr (clr (clr (clr (clr (clr (clr (clr (clr (clr x 22) 23) 24) 25) 26) 27) 28) 29) 30) 31) 32) 33)
def X0_init_21_y1 : List Kd := [.inl (8, [4, 6, 11, 2, 2, 2, 2, 2, 2, 2, 0]), .inl (5, [5, 0]), .inr (2, 2000), .inl (6, [7, 8, 9, 10, 0, 0, 1]), .inr (1, 27), .inr (0, 401), .inr (0, 401), .inr (1, 401), .inl (0, [0, 0, 12, 13, 14, 15, 16, 0, 17, 18, 19, 20, 0, 21, 22, 23]), .inr (0, 20), .inr (0, 20), .inr (0, 20), .inr (0, 20), .inr (0, 20), .inr (0, 16), .inr (0, 16), .inr (0, 16), .inr (0, 16), .inr (0, 400), .inr (0, 400), .inr (0, 400), .inl (0, [0, 0, 2, 2, 2, 2, 2, 0, 2, 2, 2, 2, 0, 2, 2, 2]), .inr (0, 20)]
def X0_init_21_y2 : List Kd := [.inl (8, [4, 6, 11, 2, 2, 2, 2, 2, 2, 2, 0]), .inl (5, [5, 0]), .inr (2, 2000), .inl (6, [7, 8, 9, 10, 0, 0, 1]), .inr (1, 27), .inr (0, 401), .inr (0, 401), .inr (1, 401), .inl (0, [0, 0, 12, 13, 14, 15, 16, 0, 17, 18, 19, 20, 0, 21, 22, 23]), .inr (0, 20), .inr (0, 20), .inr (0, 20), .inr (0, 20), .inr (0, 20), .inr (0, 16), .inr (0, 16), .inr (0, 16), .inr (0, 16), .inr (0, 400), .inr (0, 400), .inr (0, 400), .inl (0, [0, 0, 25, 2, 2, 2, 2, 0, 2, 2, 2, 2, 0, 2, 2, 2]), .inr (0, 20)]
def X0_init_21_y3 : List Kd := [.inl (8, [4, 6, 11, 2, 2, 2, 2, 2, 2, 2, 0]), .inl (5, [5, 0]), .inr (2, 2000), .inl (6, [7, 8, 9, 10, 0, 0, 1]), .inr (1, 27), .inr (0, 401), .inr (0, 401), .inr (1, 401), .inl (0, [0, 0, 12, 13, 14, 15, 16, 0, 17, 18, 19, 20, 0, 21, 22, 23]), .inr (0, 20), .inr (0, 20), .inr (0, 20), .inr (0, 20), .inr (0, 20), .inr (0, 16), .inr (0, 16), .inr (0, 16), .inr (0, 16), .inr (0, 400), .inr (0, 400), .inr (0, 400), .inl (0, [0, 0, 25, 2, 2, 2, 2, 0, 2, 2, 2, 2, 0, 2, 2, 2]), .inr (0, 20), .inr (0, 20)]
def X0_init_21_y4 : List Kd := [.inl (8, [4, 6, 11, 2, 2, 2, 2, 2, 2, 2, 0]), .inl (5, [5, 0]), .inr (2, 2000), .inl (6, [7, 8, 9, 10, 0, 0, 1]), .inr (1, 27), .inr (0, 401), .inr (0, 401), .inr (1, 401), .inl (0, [0, 0, 12, 13, 14, 15, 16, 0, 17, 18, 19, 20, 0, 21, 22, 23]), .inr (0, 20), .inr (0, 20), .inr (0, 20), .inr (0, 20), .inr (0, 20), .inr (0, 16), .inr (0, 16), .inr (0, 16), .inr (0, 16), .inr (0, 400), .inr (0, 400), .inr (0, 400), .inl (0, [0, 0, 25, 26, 2, 2, 2, 0, 2, 2, 2, 2, 0, 2, 2, 2]), .inr (0, 20), .inr (0, 20)]
def X0_init_21_y5 : List Kd := [.inl (8, [4, 6, 11, 2, 2, 2, 2, 2, 2, 2, 0]), .inl (5, [5, 0]), .inr (2, 2000), .inl (6, [7, 8, 9, 10, 0, 0, 1]), .inr (1, 27), .inr (0, 401), .inr (0, 401), .inr (1, 401), .inl (0, [0, 0, 12, 13, 14, 15, 16, 0, 17, 18, 19, 20, 0, 21, 22, 23]), .inr (0, 20), .inr (0, 20), .inr (0, 20), .inr (0, 20), .inr (0, 20), .inr (0, 16), .inr (0, 16), .inr (0, 16), .inr (0, 16), .inr (0, 400), .inr (0, 400), .inr (0, 400), .inl (0, [0, 0, 25, 26, 2, 2, 2, 0, 2, 2, 2, 2, 0, 2, 2, 2]), .inr (0, 20), .inr (0, 20), .inr (0, 20)]
def X0_init_21_y6 : List Kd := [.inl (8, [4, 6, 11, 2, 2, 2, 2, 2, 2, 2, 0]), .inl (5, [5, 0]), .inr (2, 2000), .inl (6, [7, 8, 9, 10, 0, 0, 1]), .inr (1, 27), .inr (0, 401), .inr (0, 401), .inr (1, 401), .inl (0, [0, 0, 12, 13, 14, 15, 16, 0, 17, 18, 19, 20, 0, 21, 22, 23]), .inr (0, 20), .inr (0, 20), .inr (0, 20), .inr (0, 20), .inr (0, 20), .inr (0, 16), .inr (0, 16), .inr (0, 16), .inr (0, 16), .inr (0, 400), .inr (0, 400), .inr (0, 400), .inl (0, [0, 0, 25, 26, 27, 2, 2, 0, 2, 2, 2, 2, 0, 2, 2, 2]), .inr (0, 20), .inr (0, 20), .inr (0, 20)]
def X0_init_21_y7 : List Kd := [.inl (8, [4, 6, 11, 2, 2, 2, 2, 2, 2, 2, 0]), .inl (5, [5, 0]), .inr (2, 2000), .inl (6, [7, 8, 9, 10, 0, 0, 1]), .inr (1, 27), .inr (0, 401), .inr (0, 401), .inr (1, 401), .inl (0, [0, 0, 12, 13, 14, 15, 16, 0, 17, 18, 19, 20, 0, 21, 22, 23]), .inr (0, 20), .inr (0, 20), .inr (0, 20), .inr (0, 20), .inr (0, 20), .inr (0, 16), .inr (0, 16), .inr (0, 16), .inr (0, 16), .inr (0, 400), .inr (0, 400), .inr (0, 400), .inl (0, [0, 0, 25, 26, 27, 2, 2, 0, 2, 2, 2, 2, 0, 2, 2, 2]), .inr (0, 20), .inr (0, 20), .inr (0, 20), .inr (0, 20)]
def X0_init_21_y8 : List Kd := [.inl (8, [4, 6, 11, 2, 2, 2, 2, 2, 2, 2, 0]), .inl (5, [5, 0]), .inr (2, 2000), .inl (6, [7, 8, 9, 10, 0, 0, 1]), .inr (1, 27), .inr (0, 401), .inr (0, 401), .inr (1, 401), .inl (0, [0, 0, 12, 13, 14, 15, 16, 0, 17, 18, 19, 20, 0, 21, 22, 23]), .inr (0, 20), .inr (0, 20), .inr (0, 20), .inr (0, 20), .inr (0, 20), .inr (0, 16), .inr (0, 16), .inr (0, 16), .inr (0, 16), .inr (0, 400), .inr (0, 400), .inr (0, 400), .inl (0, [0, 0, 25, 26, 27, 28, 2, 0, 2, 2, 2, 2, 0, 2, 2, 2]), .inr (0, 20), .inr (0, 20), .inr (0, 20), .inr (0, 20)]
def X0_init_21_y9 : List Kd := [.inl (8, [4, 6, 11, 2, 2, 2, 2, 2, 2, 2, 0]), .inl (5, [5, 0]), .inr (2, 2000), .inl (6, [7, 8, 9, 10, 0, 0, 1]), .inr (1, 27), .inr (0, 401), .inr (0, 401), .inr (1, 401), .inl (0, [0, 0, 12, 13, 14, 15, 16, 0, 17, 18, 19, 20, 0, 21, 22, 23]), .inr (0, 20), .inr (0, 20), .inr (0, 20), .inr (0, 20), .inr (0, 20), .inr (0, 16), .inr (0, 16), .inr (0, 16), .inr (0, 16), .inr (0, 400), .inr (0, 400), .inr (0, 400), .inl (0, [0, 0, 25, 26, 27, 28, 2, 0, 2, 2, 2, 2, 0, 2, 2, 2]), .inr (0, 20), .inr (0, 20), .inr (0, 20), .inr (0, 20), .inr (0, 20)]
def X0_init_21_y10 : List Kd := [.inl (8, [4, 6, 11, 2, 2, 2, 2, 2, 2, 2, 0]), .inl (5, [5, 0]), .inr (2, 2000), .inl (6, [7, 8, 9, 10, 0, 0, 1]), .inr (1, 27), .inr (0, 401), .inr (0, 401), .inr (1, 401), .inl (0, [0, 0, 12, 13, 14, 15, 16, 0, 17, 18, 19, 20, 0, 21, 22, 23]), .inr (0, 20), .inr (0, 20), .inr (0, 20), .inr (0, 20), .inr (0, 20), .inr (0, 16), .inr (0, 16), .inr (0, 16), .inr (0, 16), .inr (0, 400), .inr (0, 400), .inr (0, 400), .inl (0, [0, 0, 25, 26, 27, 28, 29, 0, 2, 2, 2, 2, 0, 2, 2, 2]), .inr (0, 20), .inr (0, 20), .inr (0, 20), .inr (0, 20), .inr (0, 20)]
def X0_init_21_y11 : List Kd := [.inl (8, [4, 6, 11, 2, 2, 2, 2, 2, 2, 2, 0]), .inl (5, [5, 0]), .inr (2, 2000), .inl (6, [7, 8, 9, 10, 0, 0, 1]), .inr (1, 27), .inr (0, 401), .inr (0, 401), .inr (1, 401), .inl (0, [0, 0, 12, 13, 14, 15, 16, 0, 17, 18, 19, 20, 0, 21, 22, 23]), .inr (0, 20), .inr (0, 20), .inr (0, 20), .inr (0, 20), .inr (0, 20), .inr (0, 16), .inr (0, 16), .inr (0, 16), .inr (0, 16), .inr (0, 400), .inr (0, 400), .inr (0, 400), .inl (0, [0, 0, 25, 26, 27, 28, 29, 0, 2, 2, 2, 2, 0, 2, 2, 2]), .inr (0, 20), .inr (0, 20), .inr (0, 20), .inr (0, 20), .inr (0, 20), .inr (0, 16)]
def X0_init_21_y12 : List Kd := [.inl (8, [4, 6, 11, 2, 2, 2, 2, 2, 2, 2, 0]), .inl (5, [5, 0]), .inr (2, 2000), .inl (6, [7, 8, 9, 10, 0, 0, 1]), .inr (1, 27), .inr (0, 401), .inr (0, 401), .inr (1, 401), .inl (0, [0, 0, 12, 13, 14, 15, 16, 0, 17, 18, 19, 20, 0, 21, 22, 23]), .inr (0, 20), .inr (0, 20), .inr (0, 20), .inr (0, 20), .inr (0, 20), .inr (0, 16), .inr (0, 16), .inr (0, 16), .inr (0, 16), .inr (0, 400), .inr (0, 400), .inr (0, 400), .inl (0, [0, 0, 25, 26, 27, 28, 29, 0, 30, 2, 2, 2, 0, 2, 2, 2]), .inr (0, 20), .inr (0, 20), .inr (0, 20), .inr (0, 20), .inr (0, 20), .inr (0, 16)]
def X0_init_21_y13 : List Kd := [.inl (8, [4, 6, 11, 2, 2, 2, 2, 2, 2, 2, 0]), .inl (5, [5, 0]), .inr (2, 2000), .inl (6, [7, 8, 9, 10, 0, 0, 1]), .inr (1, 27), .inr (0, 401), .inr (0, 401), .inr (1, 401), .inl (0, [0, 0, 12, 13, 14, 15, 16, 0, 17, 18, 19, 20, 0, 21, 22, 23]), .inr (0, 20), .inr (0, 20), .inr (0, 20), .inr (0, 20), .inr (0, 20), .inr (0, 16), .inr (0, 16), .inr (0, 16), .inr (0, 16), .inr (0, 400), .inr (0, 400), .inr (0, 400), .inl (0, [0, 0, 25, 26, 27, 28, 29, 0, 30, 2, 2, 2, 0, 2, 2, 2]), .inr (0, 20), .inr (0, 20), .inr (0, 20), .inr (0, 20), .inr (0, 20), .inr (0, 16), .inr (0, 16)]
def X0_init_21_y14 : List Kd := [.inl (8, [4, 6, 11, 2, 2, 2, 2, 2, 2, 2, 0]), .inl (5, [5, 0]), .inr (2, 2000), .inl (6, [7, 8, 9, 10, 0, 0, 1]), .inr (1, 27), .inr (0, 401), .inr (0, 401), .inr (1, 401), .inl (0, [0, 0, 12, 13, 14, 15, 16, 0, 17, 18, 19, 20, 0, 21, 22, 23]), .inr (0, 20), .inr (0, 20), .inr (0, 20), .inr (0, 20), .inr (0, 20), .inr (0, 16), .inr (0, 16), .inr (0, 16), .inr (0, 16), .inr (0, 400), .inr (0, 400), .inr (0, 400), .inl (0, [0, 0, 25, 26, 27, 28, 29, 0, 30, 31, 2, 2, 0, 2, 2, 2]), .inr (0, 20), .inr (0, 20), .inr (0, 20), .inr (0, 20), .inr (0, 20), .inr (0, 16), .inr (0, 16)]
def X0_init_21_y15 : List Kd := [.inl (8, [4, 6, 11, 2, 2, 2, 2, 2, 2, 2, 0]), .inl (5, [5, 0]), .inr (2, 2000), .inl (6, [7, 8, 9, 10, 0, 0, 1]), .inr (1, 27), .inr (0, 401), .inr (0, 401), .inr (1, 401), .inl (0, [0, 0, 12, 13, 14, 15, 16, 0, 17, 18, 19, 20, 0, 21, 22, 23]), .inr (0, 20), .inr (0, 20), .inr (0, 20), .inr (0, 20), .inr (0, 20), .inr (0, 16), .inr (0, 16), .inr (0, 16), .inr (0, 16), .inr (0, 400), .inr (0, 400), .inr (0, 400), .inl (0, [0, 0, 25, 26, 27, 28, 29, 0, 30, 31, 2, 2, 0, 2, 2, 2]), .inr (0, 20), .inr (0, 20), .inr (0, 20), .inr (0, 20), .inr (0, 20), .inr (0, 16), .inr (0, 16), .inr (0, 16)]
def X0_init_21_y16 : List Kd := [.inl (8, [4, 6, 11, 2, 2, 2, 2, 2, 2, 2, 0]), .inl (5, [5, 0]), .inr (2, 2000), .inl (6, [7, 8, 9, 10, 0, 0, 1]), .inr (1, 27), .inr (0, 401), .inr (0, 401), .inr (1, 401), .inl (0, [0, 0, 12, 13, 14, 15, 16, 0, 17, 18, 19, 20, 0, 21, 22, 23]), .inr (0, 20), .inr (0, 20), .inr (0, 20), .inr (0, 20), .inr (0, 20), .inr (0, 16), .inr (0, 16), .inr (0, 16), .inr (0, 16), .inr (0, 400), .inr (0, 400), .inr (0, 400), .inl (0, [0, 0, 25, 26, 27, 28, 29, 0, 30, 31, 32, 2, 0, 2, 2, 2]), .inr (0, 20), .inr (0, 20), .inr (0, 20), .inr (0, 20), .inr (0, 20), .inr (0, 16), .inr (0, 16), .inr (0, 16)]
def X0_init_21_y17 : List Kd := [.inl (8, [4, 6, 11, 2, 2, 2, 2, 2, 2, 2, 0]), .inl (5, [5, 0]), .inr (2, 2000), .inl (6, [7, 8, 9, 10, 0, 0, 1]), .inr (1, 27), .inr (0, 401), .inr (0, 401), .inr (1, 401), .inl (0, [0, 0, 12, 13, 14, 15, 16, 0, 17, 18, 19, 20, 0, 21, 22, 23]), .inr (0, 20), .inr (0, 20), .inr (0, 20), .inr (0, 20), .inr (0, 20), .inr (0, 16), .inr (0, 16), .inr (0, 16), .inr (0, 16), .inr (0, 400), .inr (0, 400), .inr (0, 400), .inl (0, [0, 0, 25, 26, 27, 28, 29, 0, 30, 31, 32, 2, 0, 2, 2, 2]), .inr (0, 20), .inr (0, 20), .inr (0, 20), .inr (0, 20), .inr (0, 20), .inr (0, 16), .inr (0, 16), .inr (0, 16), .inr (0, 16)]
def X0_init_21_y18 : List Kd := [.inl (8, [4, 6, 11, 2, 2, 2, 2, 2, 2, 2, 0]), .inl (5, [5, 0]), .inr (2, 2000), .inl (6, [7, 8, 9, 10, 0, 0, 1]), .inr (1, 27), .inr (0, 401), .inr (0, 401), .inr (1, 401), .inl (0, [0, 0, 12, 13, 14, 15, 16, 0, 17, 18, 19, 20, 0, 21, 22, 23]), .inr (0, 20), .inr (0, 20), .inr (0, 20), .inr (0, 20), .inr (0, 20), .inr (0, 16), .inr (0, 16), .inr (0, 16), .inr (0, 16), .inr (0, 400), .inr (0, 400), .inr (0, 400), .inl (0, [0, 0, 25, 26, 27, 28, 29, 0, 30, 31, 32, 33, 0, 2, 2, 2]), .inr (0, 20), .inr (0, 20), .inr (0, 20), .inr (0, 20), .inr (0, 20), .inr (0, 16), .inr (0, 16), .inr (0, 16), .inr (0, 16)]
def X0_init_21_y19 : List Kd := [.inl (8, [4, 6, 11, 2, 2, 2, 2, 2, 2, 2, 0]), .inl (5, [5, 0]), .inr (2, 2000), .inl (6, [7, 8, 9, 10, 0, 0, 1]), .inr (1, 27), .inr (0, 401), .inr (0, 401), .inr (1, 401), .inl (0, [0, 0, 12, 13, 14, 15, 16, 0, 17, 18, 19, 20, 0, 21, 22, 23]), .inr (0, 20), .inr (0, 20), .inr (0, 20), .inr (0, 20), .inr (0, 20), .inr (0, 16), .inr (0, 16), .inr (0, 16), .inr (0, 16), .inr (0, 400), .inr (0, 400), .inr (0, 400), .inl (0, [0, 0, 25, 26, 27, 28, 29, 0, 30, 31, 32, 33, 0, 2, 2, 2]), .inr (0, 20), .inr (0, 20), .inr (0, 20), .inr (0, 20), .inr (0, 20), .inr (0, 16), .inr (0, 16), .inr (0, 16), .inr (0, 16), .inr (0, 400)]
def X0_init_21_y20 : List Kd := [.inl (8, [4, 6, 11, 2, 2, 2, 2, 2, 2, 2, 0]), .inl (5, [5, 0]), .inr (2, 2000), .inl (6, [7, 8, 9, 10, 0, 0, 1]), .inr (1, 27), .inr (0, 401), .inr (0, 401), .inr (1, 401), .inl (0, [0, 0, 12, 13, 14, 15, 16, 0, 17, 18, 19, 20, 0, 21, 22, 23]), .inr (0, 20), .inr (0, 20), .inr (0, 20), .inr (0, 20), .inr (0, 20), .inr (0, 16), .inr (0, 16), .inr (0, 16), .inr (0, 16), .inr (0, 400), .inr (0, 400), .inr (0, 400), .inl (0, [0, 0, 25, 26, 27, 28, 29, 0, 30, 31, 32, 33, 0, 34, 2, 2]), .inr (0, 20), .inr (0, 20), .inr (0, 20), .inr (0, 20), .inr (0, 20), .inr (0, 16), .inr (0, 16), .inr (0, 16), .inr (0, 16), .inr (0, 400)]
def X0_init_21_y21 : List Kd := [.inl (8, [4, 6, 11, 2, 2, 2, 2, 2, 2, 2, 0]), .inl (5, [5, 0]), .inr (2, 2000), .inl (6, [7, 8, 9, 10, 0, 0, 1]), .inr (1, 27), .inr (0, 401), .inr (0, 401), .inr (1, 401), .inl (0, [0, 0, 12, 13, 14, 15, 16, 0, 17, 18, 19, 20, 0, 21, 22, 23]), .inr (0, 20), .inr (0, 20), .inr (0, 20), .inr (0, 20), .inr (0, 20), .inr (0, 16), .inr (0, 16), .inr (0, 16), .inr (0, 16), .inr (0, 400), .inr (0, 400), .inr (0, 400), .inl (0, [0, 0, 25, 26, 27, 28, 29, 0, 30, 31, 32, 33, 0, 34, 2, 2]), .inr (0, 20), .inr (0, 20), .inr (0, 20), .inr (0, 20), .inr (0, 20), .inr (0, 16), .inr (0, 16), .inr (0, 16), .inr (0, 16), .inr (0, 400), .inr (0, 400)]
def X0_init_21_y22 : List Kd := [.inl (8, [4, 6, 11, 2, 2, 2, 2, 2, 2, 2, 0]), .inl (5, [5, 0]), .inr (2, 2000), .inl (6, [7, 8, 9, 10, 0, 0, 1]), .inr (1, 27), .inr (0, 401), .inr (0, 401), .inr (1, 401), .inl (0, [0, 0, 12, 13, 14, 15, 16, 0, 17, 18, 19, 20, 0, 21, 22, 23]), .inr (0, 20), .inr (0, 20), .inr (0, 20), .inr (0, 20), .inr (0, 20), .inr (0, 16), .inr (0, 16), .inr (0, 16), .inr (0, 16), .inr (0, 400), .inr (0, 400), .inr (0, 400), .inl (0, [0, 0, 25, 26, 27, 28, 29, 0, 30, 31, 32, 33, 0, 34, 35, 2]), .inr (0, 20), .inr (0, 20), .inr (0, 20), .inr (0, 20), .inr (0, 20), .inr (0, 16), .inr (0, 16), .inr (0, 16), .inr (0, 16), .inr (0, 400), .inr (0, 400)]
def X0_init_21_y23 : List Kd := [.inl (8, [4, 6, 11, 2, 2, 2, 2, 2, 2, 2, 0]), .inl (5, [5, 0]), .inr (2, 2000), .inl (6, [7, 8, 9, 10, 0, 0, 1]), .inr (1, 27), .inr (0, 401), .inr (0, 401), .inr (1, 401), .inl (0, [0, 0, 12, 13, 14, 15, 16, 0, 17, 18, 19, 20, 0, 21, 22, 23]), .inr (0, 20), .inr (0, 20), .inr (0, 20), .inr (0, 20), .inr (0, 20), .inr (0, 16), .inr (0, 16), .inr (0, 16), .inr (0, 16), .inr (0, 400), .inr (0, 400), .inr (0, 400), .inl (0, [0, 0, 25, 26, 27, 28, 29, 0, 30, 31, 32, 33, 0, 34, 35, 2]), .inr (0, 20), .inr (0, 20), .inr (0, 20), .inr (0, 20), .inr (0, 20), .inr (0, 16), .inr (0, 16), .inr (0, 16), .inr (0, 16), .inr (0, 400), .inr (0, 400), .inr (0, 400)]
def X0_init_21_y24 : List Kd := [.inl (8, [4, 6, 11, 2, 2, 2, 2, 2, 2, 2, 0]), .inl (5, [5, 0]), .inr (2, 2000), .inl (6, [7, 8, 9, 10, 0, 0, 1]), .inr (1, 27), .inr (0, 401), .inr (0, 401), .inr (1, 401), .inl (0, [0, 0, 12, 13, 14, 15, 16, 0, 17, 18, 19, 20, 0, 21, 22, 23]), .inr (0, 20), .inr (0, 20), .inr (0, 20), .inr (0, 20), .inr (0, 20), .inr (0, 16), .inr (0, 16), .inr (0, 16), .inr (0, 16), .inr (0, 400), .inr (0, 400), .inr (0, 400), .inl (0, [0, 0, 25, 26, 27, 28, 29, 0, 30, 31, 32, 33, 0, 34, 35, 36]), .inr (0, 20), .inr (0, 20), .inr (0, 20), .inr (0, 20), .inr (0, 20), .inr (0, 16), .inr (0, 16), .inr (0, 16), .inr (0, 16), .inr (0, 400), .inr (0, 400), .inr (0, 400)]
set_option maxHeartbeats 4000000 in
set_option maxRecDepth 100000 in
theorem c_X0_init_21 {g : Gx} {a : Nat → Nat} {x : XS}  : Mz g yX0_init cX0_init 1 none 2 12 1364 YX0_init_21 a x [.ref (a 21)] (fun v lay' a1 x' => v = none ∧ lay' = X0_init_21_y24 ∧ x' = i_X0_init_21 x ∧ ∀ j, (j < 22 ∨ 34 ≤ j) → a1 j = a j) := by
  refine Mz_of (by decide +kernel) (Nat.le_of_ble_eq_true rfl) ?_
  intro k hk he hg
  subst hg
  refine xaload_n hk dX0_init_0 rfl ?_
  refine xobjInit hk dX0_init_1 kX0_3 (by first | decide | omega) (Nat.le_of_ble_eq_true rfl) ?_
  refine xaload_n hk dX0_init_4 rfl ?_
  refine xbipush (v := 20) hk dX0_init_5 (by decide) ?_
  refine xnewI (N := 20) hk dX0_init_7 (by decide) (by decide) (Nat.le_of_ble_eq_true rfl) (Nat.le_of_ble_eq_true rfl) (Nat.le_of_ble_eq_true rfl) (by decide +kernel) ?_
  intro a1 ha1
  rw [show YX0_init_21.length = 22 from rfl] at ha1 ⊢
  refine xlay (lay' := X0_init_21_y1) rfl ?_
  rw [← ha1 21 (by decide)]
  refine xputF (q := 21) (ci := 0) (f := 2) (j := 22) hk dX0_init_9 rfl (by decide) rfl (by decide) kX0_9 rfl rfl (tyX0_ok 2 (by decide)) (fun _ => ⟨rfl, rfl⟩) ?_
  refine xlay (lay' := X0_init_21_y2) rfl ?_
  refine xaload_n hk dX0_init_12 rfl ?_
  refine xbipush (v := 20) hk dX0_init_13 (by decide) ?_
  refine xnewI (N := 20) hk dX0_init_15 (by decide) (by decide) (Nat.le_of_ble_eq_true rfl) (Nat.le_of_ble_eq_true rfl) (Nat.le_of_ble_eq_true rfl) (by decide +kernel) ?_
  intro a2 ha2
  rw [show X0_init_21_y2.length = 23 from rfl] at ha2 ⊢
  refine xlay (lay' := X0_init_21_y3) rfl ?_
  rw [← ha2 21 (by decide)]
  refine xputF (q := 21) (ci := 0) (f := 3) (j := 23) hk dX0_init_17 rfl (by decide) rfl (by decide) kX0_15 rfl rfl (tyX0_ok 3 (by decide)) (fun _ => ⟨rfl, rfl⟩) ?_
  refine xlay (lay' := X0_init_21_y4) rfl ?_
  refine xaload_n hk dX0_init_20 rfl ?_
  refine xbipush (v := 20) hk dX0_init_21 (by decide) ?_
  refine xnewI (N := 20) hk dX0_init_23 (by decide) (by decide) (Nat.le_of_ble_eq_true rfl) (Nat.le_of_ble_eq_true rfl) (Nat.le_of_ble_eq_true rfl) (by decide +kernel) ?_
  intro a3 ha3
  rw [show X0_init_21_y4.length = 24 from rfl] at ha3 ⊢
  refine xlay (lay' := X0_init_21_y5) rfl ?_
  rw [← ha3 21 (by decide)]
  refine xputF (q := 21) (ci := 0) (f := 4) (j := 24) hk dX0_init_25 rfl (by decide) rfl (by decide) kX0_18 rfl rfl (tyX0_ok 4 (by decide)) (fun _ => ⟨rfl, rfl⟩) ?_
  refine xlay (lay' := X0_init_21_y6) rfl ?_
  refine xaload_n hk dX0_init_28 rfl ?_
  refine xbipush (v := 20) hk dX0_init_29 (by decide) ?_
  refine xnewI (N := 20) hk dX0_init_31 (by decide) (by decide) (Nat.le_of_ble_eq_true rfl) (Nat.le_of_ble_eq_true rfl) (Nat.le_of_ble_eq_true rfl) (by decide +kernel) ?_
  intro a4 ha4
  rw [show X0_init_21_y6.length = 25 from rfl] at ha4 ⊢
  refine xlay (lay' := X0_init_21_y7) rfl ?_
  rw [← ha4 21 (by decide)]
  refine xputF (q := 21) (ci := 0) (f := 5) (j := 25) hk dX0_init_33 rfl (by decide) rfl (by decide) kX0_21 rfl rfl (tyX0_ok 5 (by decide)) (fun _ => ⟨rfl, rfl⟩) ?_
  refine xlay (lay' := X0_init_21_y8) rfl ?_
  refine xaload_n hk dX0_init_36 rfl ?_
  refine xbipush (v := 20) hk dX0_init_37 (by decide) ?_
  refine xnewI (N := 20) hk dX0_init_39 (by decide) (by decide) (Nat.le_of_ble_eq_true rfl) (Nat.le_of_ble_eq_true rfl) (Nat.le_of_ble_eq_true rfl) (by decide +kernel) ?_
  intro a5 ha5
  rw [show X0_init_21_y8.length = 26 from rfl] at ha5 ⊢
  refine xlay (lay' := X0_init_21_y9) rfl ?_
  rw [← ha5 21 (by decide)]
  refine xputF (q := 21) (ci := 0) (f := 6) (j := 26) hk dX0_init_41 rfl (by decide) rfl (by decide) kX0_24 rfl rfl (tyX0_ok 6 (by decide)) (fun _ => ⟨rfl, rfl⟩) ?_
  refine xlay (lay' := X0_init_21_y10) rfl ?_
  refine xaload_n hk dX0_init_44 rfl ?_
  refine xbipush (v := 16) hk dX0_init_45 (by decide) ?_
  refine xnewI (N := 16) hk dX0_init_47 (by decide) (by decide) (Nat.le_of_ble_eq_true rfl) (Nat.le_of_ble_eq_true rfl) (Nat.le_of_ble_eq_true rfl) (by decide +kernel) ?_
  intro a6 ha6
  rw [show X0_init_21_y10.length = 27 from rfl] at ha6 ⊢
  refine xlay (lay' := X0_init_21_y11) rfl ?_
  rw [← ha6 21 (by decide)]
  refine xputF (q := 21) (ci := 0) (f := 8) (j := 27) hk dX0_init_49 rfl (by decide) rfl (by decide) kX0_27 rfl rfl (tyX0_ok 8 (by decide)) (fun _ => ⟨rfl, rfl⟩) ?_
  refine xlay (lay' := X0_init_21_y12) rfl ?_
  refine xaload_n hk dX0_init_52 rfl ?_
  refine xbipush (v := 16) hk dX0_init_53 (by decide) ?_
  refine xnewI (N := 16) hk dX0_init_55 (by decide) (by decide) (Nat.le_of_ble_eq_true rfl) (Nat.le_of_ble_eq_true rfl) (Nat.le_of_ble_eq_true rfl) (by decide +kernel) ?_
  intro a7 ha7
  rw [show X0_init_21_y12.length = 28 from rfl] at ha7 ⊢
  refine xlay (lay' := X0_init_21_y13) rfl ?_
  rw [← ha7 21 (by decide)]
  refine xputF (q := 21) (ci := 0) (f := 9) (j := 28) hk dX0_init_57 rfl (by decide) rfl (by decide) kX0_30 rfl rfl (tyX0_ok 9 (by decide)) (fun _ => ⟨rfl, rfl⟩) ?_
  refine xlay (lay' := X0_init_21_y14) rfl ?_
  refine xaload_n hk dX0_init_60 rfl ?_
  refine xbipush (v := 16) hk dX0_init_61 (by decide) ?_
  refine xnewI (N := 16) hk dX0_init_63 (by decide) (by decide) (Nat.le_of_ble_eq_true rfl) (Nat.le_of_ble_eq_true rfl) (Nat.le_of_ble_eq_true rfl) (by decide +kernel) ?_
  intro a8 ha8
  rw [show X0_init_21_y14.length = 29 from rfl] at ha8 ⊢
  refine xlay (lay' := X0_init_21_y15) rfl ?_
  rw [← ha8 21 (by decide)]
  refine xputF (q := 21) (ci := 0) (f := 10) (j := 29) hk dX0_init_65 rfl (by decide) rfl (by decide) kX0_33 rfl rfl (tyX0_ok 10 (by decide)) (fun _ => ⟨rfl, rfl⟩) ?_
  refine xlay (lay' := X0_init_21_y16) rfl ?_
  refine xaload_n hk dX0_init_68 rfl ?_
  refine xbipush (v := 16) hk dX0_init_69 (by decide) ?_
  refine xnewI (N := 16) hk dX0_init_71 (by decide) (by decide) (Nat.le_of_ble_eq_true rfl) (Nat.le_of_ble_eq_true rfl) (Nat.le_of_ble_eq_true rfl) (by decide +kernel) ?_
  intro a9 ha9
  rw [show X0_init_21_y16.length = 30 from rfl] at ha9 ⊢
  refine xlay (lay' := X0_init_21_y17) rfl ?_
  rw [← ha9 21 (by decide)]
  refine xputF (q := 21) (ci := 0) (f := 11) (j := 30) hk dX0_init_73 rfl (by decide) rfl (by decide) kX0_36 rfl rfl (tyX0_ok 11 (by decide)) (fun _ => ⟨rfl, rfl⟩) ?_
  refine xlay (lay' := X0_init_21_y18) rfl ?_
  refine xaload_n hk dX0_init_76 rfl ?_
  refine xsipush (v := 400) hk dX0_init_77 (by decide) ?_
  refine xnewI (N := 400) hk dX0_init_80 (by decide) (by decide) (Nat.le_of_ble_eq_true rfl) (Nat.le_of_ble_eq_true rfl) (Nat.le_of_ble_eq_true rfl) (by decide +kernel) ?_
  intro a10 ha10
  rw [show X0_init_21_y18.length = 31 from rfl] at ha10 ⊢
  refine xlay (lay' := X0_init_21_y19) rfl ?_
  rw [← ha10 21 (by decide)]
  refine xputF (q := 21) (ci := 0) (f := 13) (j := 31) hk dX0_init_82 rfl (by decide) rfl (by decide) kX0_39 rfl rfl (tyX0_ok 13 (by decide)) (fun _ => ⟨rfl, rfl⟩) ?_
  refine xlay (lay' := X0_init_21_y20) rfl ?_
  refine xaload_n hk dX0_init_85 rfl ?_
  refine xsipush (v := 400) hk dX0_init_86 (by decide) ?_
  refine xnewI (N := 400) hk dX0_init_89 (by decide) (by decide) (Nat.le_of_ble_eq_true rfl) (Nat.le_of_ble_eq_true rfl) (Nat.le_of_ble_eq_true rfl) (by decide +kernel) ?_
  intro a11 ha11
  rw [show X0_init_21_y20.length = 32 from rfl] at ha11 ⊢
  refine xlay (lay' := X0_init_21_y21) rfl ?_
  rw [← ha11 21 (by decide)]
  refine xputF (q := 21) (ci := 0) (f := 14) (j := 32) hk dX0_init_91 rfl (by decide) rfl (by decide) kX0_42 rfl rfl (tyX0_ok 14 (by decide)) (fun _ => ⟨rfl, rfl⟩) ?_
  refine xlay (lay' := X0_init_21_y22) rfl ?_
  refine xaload_n hk dX0_init_94 rfl ?_
  refine xsipush (v := 400) hk dX0_init_95 (by decide) ?_
  refine xnewI (N := 400) hk dX0_init_98 (by decide) (by decide) (Nat.le_of_ble_eq_true rfl) (Nat.le_of_ble_eq_true rfl) (Nat.le_of_ble_eq_true rfl) (by decide +kernel) ?_
  intro a12 ha12
  rw [show X0_init_21_y22.length = 33 from rfl] at ha12 ⊢
  refine xlay (lay' := X0_init_21_y23) rfl ?_
  rw [← ha12 21 (by decide)]
  refine xputF (q := 21) (ci := 0) (f := 15) (j := 33) hk dX0_init_100 rfl (by decide) rfl (by decide) kX0_45 rfl rfl (tyX0_ok 15 (by decide)) (fun _ => ⟨rfl, rfl⟩) ?_
  refine xlay (lay' := X0_init_21_y24) rfl ?_
  refine xvretZ hk he dX0_init_103 ⟨Nat.le_of_ble_eq_true rfl, Nat.le_of_ble_eq_true rfl⟩ ?_
  exact ⟨rfl, rfl, rfl, fun j hj => ((ha12 j (by omega)).trans ((ha11 j (by omega)).trans ((ha10 j (by omega)).trans ((ha9 j (by omega)).trans ((ha8 j (by omega)).trans ((ha7 j (by omega)).trans ((ha6 j (by omega)).trans ((ha5 j (by omega)).trans ((ha4 j (by omega)).trans ((ha3 j (by omega)).trans ((ha2 j (by omega)).trans (ha1 j (by omega)))))))))))))⟩

def YX4_init_34 : List Kd := [.inl (8, [4, 6, 11, 24, 2, 2, 2, 2, 2, 2, 0]), .inl (5, [5, 0]), .inr (2, 2000), .inl (6, [7, 8, 9, 10, 0, 0, 1]), .inr (1, 27), .inr (0, 401), .inr (0, 401), .inr (1, 401), .inl (0, [0, 0, 12, 13, 14, 15, 16, 0, 17, 18, 19, 20, 0, 21, 22, 23]), .inr (0, 20), .inr (0, 20), .inr (0, 20), .inr (0, 20), .inr (0, 20), .inr (0, 16), .inr (0, 16), .inr (0, 16), .inr (0, 16), .inr (0, 400), .inr (0, 400), .inr (0, 400), .inl (0, [0, 0, 25, 26, 27, 28, 29, 0, 30, 31, 32, 33, 0, 34, 35, 36]), .inr (0, 20), .inr (0, 20), .inr (0, 20), .inr (0, 20), .inr (0, 20), .inr (0, 16), .inr (0, 16), .inr (0, 16), .inr (0, 16), .inr (0, 400), .inr (0, 400), .inr (0, 400), .inl (4, [2, 2, 2, 2, 0, 0, 0])]
def i_X4_init_34 (x : XS) : XS := (clr (clr x 35) 36)
def X4_init_34_y1 : List Kd := [.inl (8, [4, 6, 11, 24, 2, 2, 2, 2, 2, 2, 0]), .inl (5, [5, 0]), .inr (2, 2000), .inl (6, [7, 8, 9, 10, 0, 0, 1]), .inr (1, 27), .inr (0, 401), .inr (0, 401), .inr (1, 401), .inl (0, [0, 0, 12, 13, 14, 15, 16, 0, 17, 18, 19, 20, 0, 21, 22, 23]), .inr (0, 20), .inr (0, 20), .inr (0, 20), .inr (0, 20), .inr (0, 20), .inr (0, 16), .inr (0, 16), .inr (0, 16), .inr (0, 16), .inr (0, 400), .inr (0, 400), .inr (0, 400), .inl (0, [0, 0, 25, 26, 27, 28, 29, 0, 30, 31, 32, 33, 0, 34, 35, 36]), .inr (0, 20), .inr (0, 20), .inr (0, 20), .inr (0, 20), .inr (0, 20), .inr (0, 16), .inr (0, 16), .inr (0, 16), .inr (0, 16), .inr (0, 400), .inr (0, 400), .inr (0, 400), .inl (4, [2, 2, 2, 2, 0, 0, 0]), .inr (1, 10)]
def X4_init_34_y2 : List Kd := [.inl (8, [4, 6, 11, 24, 2, 2, 2, 2, 2, 2, 0]), .inl (5, [5, 0]), .inr (2, 2000), .inl (6, [7, 8, 9, 10, 0, 0, 1]), .inr (1, 27), .inr (0, 401), .inr (0, 401), .inr (1, 401), .inl (0, [0, 0, 12, 13, 14, 15, 16, 0, 17, 18, 19, 20, 0, 21, 22, 23]), .inr (0, 20), .inr (0, 20), .inr (0, 20), .inr (0, 20), .inr (0, 20), .inr (0, 16), .inr (0, 16), .inr (0, 16), .inr (0, 16), .inr (0, 400), .inr (0, 400), .inr (0, 400), .inl (0, [0, 0, 25, 26, 27, 28, 29, 0, 30, 31, 32, 33, 0, 34, 35, 36]), .inr (0, 20), .inr (0, 20), .inr (0, 20), .inr (0, 20), .inr (0, 20), .inr (0, 16), .inr (0, 16), .inr (0, 16), .inr (0, 16), .inr (0, 400), .inr (0, 400), .inr (0, 400), .inl (4, [2, 2, 38, 2, 0, 0, 0]), .inr (1, 10)]
def X4_init_34_y3 : List Kd := [.inl (8, [4, 6, 11, 24, 2, 2, 2, 2, 2, 2, 0]), .inl (5, [5, 0]), .inr (2, 2000), .inl (6, [7, 8, 9, 10, 0, 0, 1]), .inr (1, 27), .inr (0, 401), .inr (0, 401), .inr (1, 401), .inl (0, [0, 0, 12, 13, 14, 15, 16, 0, 17, 18, 19, 20, 0, 21, 22, 23]), .inr (0, 20), .inr (0, 20), .inr (0, 20), .inr (0, 20), .inr (0, 20), .inr (0, 16), .inr (0, 16), .inr (0, 16), .inr (0, 16), .inr (0, 400), .inr (0, 400), .inr (0, 400), .inl (0, [0, 0, 25, 26, 27, 28, 29, 0, 30, 31, 32, 33, 0, 34, 35, 36]), .inr (0, 20), .inr (0, 20), .inr (0, 20), .inr (0, 20), .inr (0, 20), .inr (0, 16), .inr (0, 16), .inr (0, 16), .inr (0, 16), .inr (0, 400), .inr (0, 400), .inr (0, 400), .inl (4, [2, 2, 38, 2, 0, 0, 0]), .inr (1, 10), .inr (1, 20)]
def X4_init_34_y4 : List Kd := [.inl (8, [4, 6, 11, 24, 2, 2, 2, 2, 2, 2, 0]), .inl (5, [5, 0]), .inr (2, 2000), .inl (6, [7, 8, 9, 10, 0, 0, 1]), .inr (1, 27), .inr (0, 401), .inr (0, 401), .inr (1, 401), .inl (0, [0, 0, 12, 13, 14, 15, 16, 0, 17, 18, 19, 20, 0, 21, 22, 23]), .inr (0, 20), .inr (0, 20), .inr (0, 20), .inr (0, 20), .inr (0, 20), .inr (0, 16), .inr (0, 16), .inr (0, 16), .inr (0, 16), .inr (0, 400), .inr (0, 400), .inr (0, 400), .inl (0, [0, 0, 25, 26, 27, 28, 29, 0, 30, 31, 32, 33, 0, 34, 35, 36]), .inr (0, 20), .inr (0, 20), .inr (0, 20), .inr (0, 20), .inr (0, 20), .inr (0, 16), .inr (0, 16), .inr (0, 16), .inr (0, 16), .inr (0, 400), .inr (0, 400), .inr (0, 400), .inl (4, [2, 2, 38, 39, 0, 0, 0]), .inr (1, 10), .inr (1, 20)]
def X4_init_34_y5 : List Kd := [.inl (8, [4, 6, 11, 24, 2, 2, 2, 2, 2, 2, 0]), .inl (5, [5, 0]), .inr (2, 2000), .inl (6, [7, 8, 9, 10, 0, 0, 1]), .inr (1, 27), .inr (0, 401), .inr (0, 401), .inr (1, 401), .inl (0, [0, 0, 12, 13, 14, 15, 16, 0, 17, 18, 19, 20, 0, 21, 22, 23]), .inr (0, 20), .inr (0, 20), .inr (0, 20), .inr (0, 20), .inr (0, 20), .inr (0, 16), .inr (0, 16), .inr (0, 16), .inr (0, 16), .inr (0, 400), .inr (0, 400), .inr (0, 400), .inl (0, [0, 0, 25, 26, 27, 28, 29, 0, 30, 31, 32, 33, 0, 34, 35, 36]), .inr (0, 20), .inr (0, 20), .inr (0, 20), .inr (0, 20), .inr (0, 20), .inr (0, 16), .inr (0, 16), .inr (0, 16), .inr (0, 16), .inr (0, 400), .inr (0, 400), .inr (0, 400), .inl (4, [6, 2, 38, 39, 0, 0, 0]), .inr (1, 10), .inr (1, 20)]
def X4_init_34_y6 : List Kd := [.inl (8, [4, 6, 11, 24, 2, 2, 2, 2, 2, 2, 0]), .inl (5, [5, 0]), .inr (2, 2000), .inl (6, [7, 8, 9, 10, 0, 0, 1]), .inr (1, 27), .inr (0, 401), .inr (0, 401), .inr (1, 401), .inl (0, [0, 0, 12, 13, 14, 15, 16, 0, 17, 18, 19, 20, 0, 21, 22, 23]), .inr (0, 20), .inr (0, 20), .inr (0, 20), .inr (0, 20), .inr (0, 20), .inr (0, 16), .inr (0, 16), .inr (0, 16), .inr (0, 16), .inr (0, 400), .inr (0, 400), .inr (0, 400), .inl (0, [0, 0, 25, 26, 27, 28, 29, 0, 30, 31, 32, 33, 0, 34, 35, 36]), .inr (0, 20), .inr (0, 20), .inr (0, 20), .inr (0, 20), .inr (0, 20), .inr (0, 16), .inr (0, 16), .inr (0, 16), .inr (0, 16), .inr (0, 400), .inr (0, 400), .inr (0, 400), .inl (4, [6, 11, 38, 39, 0, 0, 0]), .inr (1, 10), .inr (1, 20)]
set_option maxHeartbeats 4000000 in
set_option maxRecDepth 100000 in
theorem c_X4_init_34 {g : Gx} {a : Nat → Nat} {x : XS}  : Mz g yX4_init cX4_init 3 none 2 2 30 YX4_init_34 a x [.ref (a 34), .ref (a 3), .ref (a 8)] (fun v lay' a1 x' => v = none ∧ lay' = X4_init_34_y6 ∧ x' = i_X4_init_34 x ∧ ∀ j, (j < 35 ∨ 37 ≤ j) → a1 j = a j) := by
  refine Mz_of (by decide +kernel) (Nat.le_of_ble_eq_true rfl) ?_
  intro k hk he hg
  subst hg
  refine xaload_n hk dX4_init_0 rfl ?_
  refine xobjInit hk dX4_init_1 kX4_3 (by first | decide | omega) (Nat.le_of_ble_eq_true rfl) ?_
  refine xaload_n hk dX4_init_4 rfl ?_
  refine xbipush (v := 10) hk dX4_init_5 (by decide) ?_
  refine xnewL (N := 10) hk dX4_init_7 (by decide) (by decide) (Nat.le_of_ble_eq_true rfl) (Nat.le_of_ble_eq_true rfl) (Nat.le_of_ble_eq_true rfl) (by decide +kernel) ?_
  intro a1 ha1
  rw [show YX4_init_34.length = 35 from rfl] at ha1 ⊢
  refine xlay (lay' := X4_init_34_y1) rfl ?_
  rw [← ha1 3 (by decide)]
  rw [← ha1 8 (by decide)]
  rw [← ha1 34 (by decide)]
  refine xputF (q := 34) (ci := 4) (f := 2) (j := 35) hk dX4_init_9 rfl (by decide) rfl (by decide) kX4_9 rfl rfl (tyX4_ok 2 (by decide)) (fun _ => ⟨rfl, rfl⟩) ?_
  refine xlay (lay' := X4_init_34_y2) rfl ?_
  refine xaload_n hk dX4_init_12 rfl ?_
  refine xbipush (v := 20) hk dX4_init_13 (by decide) ?_
  refine xnewL (N := 20) hk dX4_init_15 (by decide) (by decide) (Nat.le_of_ble_eq_true rfl) (Nat.le_of_ble_eq_true rfl) (Nat.le_of_ble_eq_true rfl) (by decide +kernel) ?_
  intro a2 ha2
  rw [show X4_init_34_y2.length = 36 from rfl] at ha2 ⊢
  refine xlay (lay' := X4_init_34_y3) rfl ?_
  rw [← ha2 3 (by decide)]
  rw [← ha2 8 (by decide)]
  rw [← ha2 34 (by decide)]
  refine xputF (q := 34) (ci := 4) (f := 3) (j := 36) hk dX4_init_17 rfl (by decide) rfl (by decide) kX4_15 rfl rfl (tyX4_ok 3 (by decide)) (fun _ => ⟨rfl, rfl⟩) ?_
  refine xlay (lay' := X4_init_34_y4) rfl ?_
  refine xaload_n hk dX4_init_20 rfl ?_
  refine xaload_n hk dX4_init_21 rfl ?_
  refine xputF (q := 34) (ci := 4) (f := 0) (j := 3) hk dX4_init_22 rfl (by decide) rfl (by decide) kX4_18 rfl rfl (tyX4_ok 0 (by decide)) (fun _ => ⟨rfl, rfl⟩) ?_
  refine xlay (lay' := X4_init_34_y5) rfl ?_
  refine xaload_n hk dX4_init_25 rfl ?_
  refine xaload_n hk dX4_init_26 rfl ?_
  refine xputF (q := 34) (ci := 4) (f := 1) (j := 8) hk dX4_init_27 rfl (by decide) rfl (by decide) kX4_22 rfl rfl (tyX4_ok 1 (by decide)) (fun _ => ⟨rfl, rfl⟩) ?_
  refine xlay (lay' := X4_init_34_y6) rfl ?_
  refine xvretZ hk he dX4_init_30 ⟨Nat.le_of_ble_eq_true rfl, Nat.le_of_ble_eq_true rfl⟩ ?_
  exact ⟨rfl, rfl, rfl, fun j hj => ((ha2 j (by omega)).trans (ha1 j (by omega)))⟩

def YX7_init_37 : List Kd := [.inl (8, [4, 6, 11, 24, 37, 2, 2, 2, 2, 2, 0]), .inl (5, [5, 0]), .inr (2, 2000), .inl (6, [7, 8, 9, 10, 0, 0, 1]), .inr (1, 27), .inr (0, 401), .inr (0, 401), .inr (1, 401), .inl (0, [0, 0, 12, 13, 14, 15, 16, 0, 17, 18, 19, 20, 0, 21, 22, 23]), .inr (0, 20), .inr (0, 20), .inr (0, 20), .inr (0, 20), .inr (0, 20), .inr (0, 16), .inr (0, 16), .inr (0, 16), .inr (0, 16), .inr (0, 400), .inr (0, 400), .inr (0, 400), .inl (0, [0, 0, 25, 26, 27, 28, 29, 0, 30, 31, 32, 33, 0, 34, 35, 36]), .inr (0, 20), .inr (0, 20), .inr (0, 20), .inr (0, 20), .inr (0, 20), .inr (0, 16), .inr (0, 16), .inr (0, 16), .inr (0, 16), .inr (0, 400), .inr (0, 400), .inr (0, 400), .inl (4, [6, 11, 38, 39, 0, 0, 0]), .inr (1, 10), .inr (1, 20), .inl (7, [2, 2, 2, 0, 0, 0])]
def i_X7_init_37 (x : XS) : XS := (setI (clr (clr x 38) 39) 37 5 (-1))
def X7_init_37_y1 : List Kd := [.inl (8, [4, 6, 11, 24, 37, 2, 2, 2, 2, 2, 0]), .inl (5, [5, 0]), .inr (2, 2000), .inl (6, [7, 8, 9, 10, 0, 0, 1]), .inr (1, 27), .inr (0, 401), .inr (0, 401), .inr (1, 401), .inl (0, [0, 0, 12, 13, 14, 15, 16, 0, 17, 18, 19, 20, 0, 21, 22, 23]), .inr (0, 20), .inr (0, 20), .inr (0, 20), .inr (0, 20), .inr (0, 20), .inr (0, 16), .inr (0, 16), .inr (0, 16), .inr (0, 16), .inr (0, 400), .inr (0, 400), .inr (0, 400), .inl (0, [0, 0, 25, 26, 27, 28, 29, 0, 30, 31, 32, 33, 0, 34, 35, 36]), .inr (0, 20), .inr (0, 20), .inr (0, 20), .inr (0, 20), .inr (0, 20), .inr (0, 16), .inr (0, 16), .inr (0, 16), .inr (0, 16), .inr (0, 400), .inr (0, 400), .inr (0, 400), .inl (4, [6, 11, 38, 39, 0, 0, 0]), .inr (1, 10), .inr (1, 20), .inl (7, [2, 2, 2, 0, 0, 0]), .inr (0, 20)]
def X7_init_37_y2 : List Kd := [.inl (8, [4, 6, 11, 24, 37, 2, 2, 2, 2, 2, 0]), .inl (5, [5, 0]), .inr (2, 2000), .inl (6, [7, 8, 9, 10, 0, 0, 1]), .inr (1, 27), .inr (0, 401), .inr (0, 401), .inr (1, 401), .inl (0, [0, 0, 12, 13, 14, 15, 16, 0, 17, 18, 19, 20, 0, 21, 22, 23]), .inr (0, 20), .inr (0, 20), .inr (0, 20), .inr (0, 20), .inr (0, 20), .inr (0, 16), .inr (0, 16), .inr (0, 16), .inr (0, 16), .inr (0, 400), .inr (0, 400), .inr (0, 400), .inl (0, [0, 0, 25, 26, 27, 28, 29, 0, 30, 31, 32, 33, 0, 34, 35, 36]), .inr (0, 20), .inr (0, 20), .inr (0, 20), .inr (0, 20), .inr (0, 20), .inr (0, 16), .inr (0, 16), .inr (0, 16), .inr (0, 16), .inr (0, 400), .inr (0, 400), .inr (0, 400), .inl (4, [6, 11, 38, 39, 0, 0, 0]), .inr (1, 10), .inr (1, 20), .inl (7, [2, 41, 2, 0, 0, 0]), .inr (0, 20)]
def X7_init_37_y3 : List Kd := [.inl (8, [4, 6, 11, 24, 37, 2, 2, 2, 2, 2, 0]), .inl (5, [5, 0]), .inr (2, 2000), .inl (6, [7, 8, 9, 10, 0, 0, 1]), .inr (1, 27), .inr (0, 401), .inr (0, 401), .inr (1, 401), .inl (0, [0, 0, 12, 13, 14, 15, 16, 0, 17, 18, 19, 20, 0, 21, 22, 23]), .inr (0, 20), .inr (0, 20), .inr (0, 20), .inr (0, 20), .inr (0, 20), .inr (0, 16), .inr (0, 16), .inr (0, 16), .inr (0, 16), .inr (0, 400), .inr (0, 400), .inr (0, 400), .inl (0, [0, 0, 25, 26, 27, 28, 29, 0, 30, 31, 32, 33, 0, 34, 35, 36]), .inr (0, 20), .inr (0, 20), .inr (0, 20), .inr (0, 20), .inr (0, 20), .inr (0, 16), .inr (0, 16), .inr (0, 16), .inr (0, 16), .inr (0, 400), .inr (0, 400), .inr (0, 400), .inl (4, [6, 11, 38, 39, 0, 0, 0]), .inr (1, 10), .inr (1, 20), .inl (7, [2, 41, 2, 0, 0, 0]), .inr (0, 20), .inr (0, 20)]
def X7_init_37_y4 : List Kd := [.inl (8, [4, 6, 11, 24, 37, 2, 2, 2, 2, 2, 0]), .inl (5, [5, 0]), .inr (2, 2000), .inl (6, [7, 8, 9, 10, 0, 0, 1]), .inr (1, 27), .inr (0, 401), .inr (0, 401), .inr (1, 401), .inl (0, [0, 0, 12, 13, 14, 15, 16, 0, 17, 18, 19, 20, 0, 21, 22, 23]), .inr (0, 20), .inr (0, 20), .inr (0, 20), .inr (0, 20), .inr (0, 20), .inr (0, 16), .inr (0, 16), .inr (0, 16), .inr (0, 16), .inr (0, 400), .inr (0, 400), .inr (0, 400), .inl (0, [0, 0, 25, 26, 27, 28, 29, 0, 30, 31, 32, 33, 0, 34, 35, 36]), .inr (0, 20), .inr (0, 20), .inr (0, 20), .inr (0, 20), .inr (0, 20), .inr (0, 16), .inr (0, 16), .inr (0, 16), .inr (0, 16), .inr (0, 400), .inr (0, 400), .inr (0, 400), .inl (4, [6, 11, 38, 39, 0, 0, 0]), .inr (1, 10), .inr (1, 20), .inl (7, [2, 41, 42, 0, 0, 0]), .inr (0, 20), .inr (0, 20)]
def X7_init_37_y5 : List Kd := [.inl (8, [4, 6, 11, 24, 37, 2, 2, 2, 2, 2, 0]), .inl (5, [5, 0]), .inr (2, 2000), .inl (6, [7, 8, 9, 10, 0, 0, 1]), .inr (1, 27), .inr (0, 401), .inr (0, 401), .inr (1, 401), .inl (0, [0, 0, 12, 13, 14, 15, 16, 0, 17, 18, 19, 20, 0, 21, 22, 23]), .inr (0, 20), .inr (0, 20), .inr (0, 20), .inr (0, 20), .inr (0, 20), .inr (0, 16), .inr (0, 16), .inr (0, 16), .inr (0, 16), .inr (0, 400), .inr (0, 400), .inr (0, 400), .inl (0, [0, 0, 25, 26, 27, 28, 29, 0, 30, 31, 32, 33, 0, 34, 35, 36]), .inr (0, 20), .inr (0, 20), .inr (0, 20), .inr (0, 20), .inr (0, 20), .inr (0, 16), .inr (0, 16), .inr (0, 16), .inr (0, 16), .inr (0, 400), .inr (0, 400), .inr (0, 400), .inl (4, [6, 11, 38, 39, 0, 0, 0]), .inr (1, 10), .inr (1, 20), .inl (7, [24, 41, 42, 0, 0, 0]), .inr (0, 20), .inr (0, 20)]
set_option maxHeartbeats 4000000 in
set_option maxRecDepth 100000 in
theorem c_X7_init_37 {g : Gx} {a : Nat → Nat} {x : XS}  : Mz g yX7_init cX7_init 2 none 2 2 40 YX7_init_37 a x [.ref (a 37), .ref (a 21)] (fun v lay' a1 x' => v = none ∧ lay' = X7_init_37_y5 ∧ x' = i_X7_init_37 x ∧ ∀ j, (j < 38 ∨ 40 ≤ j) → a1 j = a j) := by
  refine Mz_of (by decide +kernel) (Nat.le_of_ble_eq_true rfl) ?_
  intro k hk he hg
  subst hg
  refine xaload_n hk dX7_init_0 rfl ?_
  refine xobjInit hk dX7_init_1 kX7_3 (by first | decide | omega) (Nat.le_of_ble_eq_true rfl) ?_
  refine xaload_n hk dX7_init_4 rfl ?_
  refine xbipush (v := 20) hk dX7_init_5 (by decide) ?_
  refine xnewI (N := 20) hk dX7_init_7 (by decide) (by decide) (Nat.le_of_ble_eq_true rfl) (Nat.le_of_ble_eq_true rfl) (Nat.le_of_ble_eq_true rfl) (by decide +kernel) ?_
  intro a1 ha1
  rw [show YX7_init_37.length = 38 from rfl] at ha1 ⊢
  refine xlay (lay' := X7_init_37_y1) rfl ?_
  rw [← ha1 21 (by decide)]
  rw [← ha1 37 (by decide)]
  refine xputF (q := 37) (ci := 7) (f := 1) (j := 38) hk dX7_init_9 rfl (by decide) rfl (by decide) kX7_9 rfl rfl (tyX7_ok 1 (by decide)) (fun _ => ⟨rfl, rfl⟩) ?_
  refine xlay (lay' := X7_init_37_y2) rfl ?_
  refine xaload_n hk dX7_init_12 rfl ?_
  refine xbipush (v := 20) hk dX7_init_13 (by decide) ?_
  refine xnewI (N := 20) hk dX7_init_15 (by decide) (by decide) (Nat.le_of_ble_eq_true rfl) (Nat.le_of_ble_eq_true rfl) (Nat.le_of_ble_eq_true rfl) (by decide +kernel) ?_
  intro a2 ha2
  rw [show X7_init_37_y2.length = 39 from rfl] at ha2 ⊢
  refine xlay (lay' := X7_init_37_y3) rfl ?_
  rw [← ha2 21 (by decide)]
  rw [← ha2 37 (by decide)]
  refine xputF (q := 37) (ci := 7) (f := 2) (j := 39) hk dX7_init_17 rfl (by decide) rfl (by decide) kX7_15 rfl rfl (tyX7_ok 2 (by decide)) (fun _ => ⟨rfl, rfl⟩) ?_
  refine xlay (lay' := X7_init_37_y4) rfl ?_
  refine xaload_n hk dX7_init_20 rfl ?_
  refine xiconst (v := (-1)) hk dX7_init_21 (by decide) ?_
  refine xputI (ci := 7) (f := 5) hk dX7_init_22 ⟨rfl, by decide, _, rfl, rfl⟩ kX7_18 ⟨rfl, by decide +kernel⟩ ?_
  refine xaload_n hk dX7_init_25 rfl ?_
  refine xaload_n hk dX7_init_26 rfl ?_
  refine xputF (q := 37) (ci := 7) (f := 0) (j := 21) hk dX7_init_27 rfl (by decide) rfl (by decide) kX7_22 rfl rfl (tyX7_ok 0 (by decide)) (fun _ => ⟨rfl, rfl⟩) ?_
  refine xlay (lay' := X7_init_37_y5) rfl ?_
  refine xvretZ hk he dX7_init_30 ⟨Nat.le_of_ble_eq_true rfl, Nat.le_of_ble_eq_true rfl⟩ ?_
  exact ⟨rfl, rfl, rfl, fun j hj => ((ha2 j (by omega)).trans (ha1 j (by omega)))⟩

def YX3_init_40 : List Kd := [.inl (8, [4, 6, 11, 24, 37, 40, 2, 2, 2, 2, 0]), .inl (5, [5, 0]), .inr (2, 2000), .inl (6, [7, 8, 9, 10, 0, 0, 1]), .inr (1, 27), .inr (0, 401), .inr (0, 401), .inr (1, 401), .inl (0, [0, 0, 12, 13, 14, 15, 16, 0, 17, 18, 19, 20, 0, 21, 22, 23]), .inr (0, 20), .inr (0, 20), .inr (0, 20), .inr (0, 20), .inr (0, 20), .inr (0, 16), .inr (0, 16), .inr (0, 16), .inr (0, 16), .inr (0, 400), .inr (0, 400), .inr (0, 400), .inl (0, [0, 0, 25, 26, 27, 28, 29, 0, 30, 31, 32, 33, 0, 34, 35, 36]), .inr (0, 20), .inr (0, 20), .inr (0, 20), .inr (0, 20), .inr (0, 20), .inr (0, 16), .inr (0, 16), .inr (0, 16), .inr (0, 16), .inr (0, 400), .inr (0, 400), .inr (0, 400), .inl (4, [6, 11, 38, 39, 0, 0, 0]), .inr (1, 10), .inr (1, 20), .inl (7, [24, 41, 42, 0, 0, 0]), .inr (0, 20), .inr (0, 20), .inl (3, [2, 2, 2, 2, 0, 0, 0])]
def i_X3_init_40 (x : XS) : XS := (setI (setI (clr (clr (clr x 41) 42) 43) 40 4 1) 40 6 (-1))
def X3_init_40_y1 : List Kd := [.inl (8, [4, 6, 11, 24, 37, 40, 2, 2, 2, 2, 0]), .inl (5, [5, 0]), .inr (2, 2000), .inl (6, [7, 8, 9, 10, 0, 0, 1]), .inr (1, 27), .inr (0, 401), .inr (0, 401), .inr (1, 401), .inl (0, [0, 0, 12, 13, 14, 15, 16, 0, 17, 18, 19, 20, 0, 21, 22, 23]), .inr (0, 20), .inr (0, 20), .inr (0, 20), .inr (0, 20), .inr (0, 20), .inr (0, 16), .inr (0, 16), .inr (0, 16), .inr (0, 16), .inr (0, 400), .inr (0, 400), .inr (0, 400), .inl (0, [0, 0, 25, 26, 27, 28, 29, 0, 30, 31, 32, 33, 0, 34, 35, 36]), .inr (0, 20), .inr (0, 20), .inr (0, 20), .inr (0, 20), .inr (0, 20), .inr (0, 16), .inr (0, 16), .inr (0, 16), .inr (0, 16), .inr (0, 400), .inr (0, 400), .inr (0, 400), .inl (4, [6, 11, 38, 39, 0, 0, 0]), .inr (1, 10), .inr (1, 20), .inl (7, [24, 41, 42, 0, 0, 0]), .inr (0, 20), .inr (0, 20), .inl (3, [2, 2, 2, 2, 0, 0, 0]), .inr (1, 16)]
def X3_init_40_y2 : List Kd := [.inl (8, [4, 6, 11, 24, 37, 40, 2, 2, 2, 2, 0]), .inl (5, [5, 0]), .inr (2, 2000), .inl (6, [7, 8, 9, 10, 0, 0, 1]), .inr (1, 27), .inr (0, 401), .inr (0, 401), .inr (1, 401), .inl (0, [0, 0, 12, 13, 14, 15, 16, 0, 17, 18, 19, 20, 0, 21, 22, 23]), .inr (0, 20), .inr (0, 20), .inr (0, 20), .inr (0, 20), .inr (0, 20), .inr (0, 16), .inr (0, 16), .inr (0, 16), .inr (0, 16), .inr (0, 400), .inr (0, 400), .inr (0, 400), .inl (0, [0, 0, 25, 26, 27, 28, 29, 0, 30, 31, 32, 33, 0, 34, 35, 36]), .inr (0, 20), .inr (0, 20), .inr (0, 20), .inr (0, 20), .inr (0, 20), .inr (0, 16), .inr (0, 16), .inr (0, 16), .inr (0, 16), .inr (0, 400), .inr (0, 400), .inr (0, 400), .inl (4, [6, 11, 38, 39, 0, 0, 0]), .inr (1, 10), .inr (1, 20), .inl (7, [24, 41, 42, 0, 0, 0]), .inr (0, 20), .inr (0, 20), .inl (3, [2, 44, 2, 2, 0, 0, 0]), .inr (1, 16)]
def X3_init_40_y3 : List Kd := [.inl (8, [4, 6, 11, 24, 37, 40, 2, 2, 2, 2, 0]), .inl (5, [5, 0]), .inr (2, 2000), .inl (6, [7, 8, 9, 10, 0, 0, 1]), .inr (1, 27), .inr (0, 401), .inr (0, 401), .inr (1, 401), .inl (0, [0, 0, 12, 13, 14, 15, 16, 0, 17, 18, 19, 20, 0, 21, 22, 23]), .inr (0, 20), .inr (0, 20), .inr (0, 20), .inr (0, 20), .inr (0, 20), .inr (0, 16), .inr (0, 16), .inr (0, 16), .inr (0, 16), .inr (0, 400), .inr (0, 400), .inr (0, 400), .inl (0, [0, 0, 25, 26, 27, 28, 29, 0, 30, 31, 32, 33, 0, 34, 35, 36]), .inr (0, 20), .inr (0, 20), .inr (0, 20), .inr (0, 20), .inr (0, 20), .inr (0, 16), .inr (0, 16), .inr (0, 16), .inr (0, 16), .inr (0, 400), .inr (0, 400), .inr (0, 400), .inl (4, [6, 11, 38, 39, 0, 0, 0]), .inr (1, 10), .inr (1, 20), .inl (7, [24, 41, 42, 0, 0, 0]), .inr (0, 20), .inr (0, 20), .inl (3, [2, 44, 2, 2, 0, 0, 0]), .inr (1, 16), .inr (1, 16)]
def X3_init_40_y4 : List Kd := [.inl (8, [4, 6, 11, 24, 37, 40, 2, 2, 2, 2, 0]), .inl (5, [5, 0]), .inr (2, 2000), .inl (6, [7, 8, 9, 10, 0, 0, 1]), .inr (1, 27), .inr (0, 401), .inr (0, 401), .inr (1, 401), .inl (0, [0, 0, 12, 13, 14, 15, 16, 0, 17, 18, 19, 20, 0, 21, 22, 23]), .inr (0, 20), .inr (0, 20), .inr (0, 20), .inr (0, 20), .inr (0, 20), .inr (0, 16), .inr (0, 16), .inr (0, 16), .inr (0, 16), .inr (0, 400), .inr (0, 400), .inr (0, 400), .inl (0, [0, 0, 25, 26, 27, 28, 29, 0, 30, 31, 32, 33, 0, 34, 35, 36]), .inr (0, 20), .inr (0, 20), .inr (0, 20), .inr (0, 20), .inr (0, 20), .inr (0, 16), .inr (0, 16), .inr (0, 16), .inr (0, 16), .inr (0, 400), .inr (0, 400), .inr (0, 400), .inl (4, [6, 11, 38, 39, 0, 0, 0]), .inr (1, 10), .inr (1, 20), .inl (7, [24, 41, 42, 0, 0, 0]), .inr (0, 20), .inr (0, 20), .inl (3, [2, 44, 45, 2, 0, 0, 0]), .inr (1, 16), .inr (1, 16)]
def X3_init_40_y5 : List Kd := [.inl (8, [4, 6, 11, 24, 37, 40, 2, 2, 2, 2, 0]), .inl (5, [5, 0]), .inr (2, 2000), .inl (6, [7, 8, 9, 10, 0, 0, 1]), .inr (1, 27), .inr (0, 401), .inr (0, 401), .inr (1, 401), .inl (0, [0, 0, 12, 13, 14, 15, 16, 0, 17, 18, 19, 20, 0, 21, 22, 23]), .inr (0, 20), .inr (0, 20), .inr (0, 20), .inr (0, 20), .inr (0, 20), .inr (0, 16), .inr (0, 16), .inr (0, 16), .inr (0, 16), .inr (0, 400), .inr (0, 400), .inr (0, 400), .inl (0, [0, 0, 25, 26, 27, 28, 29, 0, 30, 31, 32, 33, 0, 34, 35, 36]), .inr (0, 20), .inr (0, 20), .inr (0, 20), .inr (0, 20), .inr (0, 20), .inr (0, 16), .inr (0, 16), .inr (0, 16), .inr (0, 16), .inr (0, 400), .inr (0, 400), .inr (0, 400), .inl (4, [6, 11, 38, 39, 0, 0, 0]), .inr (1, 10), .inr (1, 20), .inl (7, [24, 41, 42, 0, 0, 0]), .inr (0, 20), .inr (0, 20), .inl (3, [2, 44, 45, 2, 0, 0, 0]), .inr (1, 16), .inr (1, 16), .inr (1, 320)]
def X3_init_40_y6 : List Kd := [.inl (8, [4, 6, 11, 24, 37, 40, 2, 2, 2, 2, 0]), .inl (5, [5, 0]), .inr (2, 2000), .inl (6, [7, 8, 9, 10, 0, 0, 1]), .inr (1, 27), .inr (0, 401), .inr (0, 401), .inr (1, 401), .inl (0, [0, 0, 12, 13, 14, 15, 16, 0, 17, 18, 19, 20, 0, 21, 22, 23]), .inr (0, 20), .inr (0, 20), .inr (0, 20), .inr (0, 20), .inr (0, 20), .inr (0, 16), .inr (0, 16), .inr (0, 16), .inr (0, 16), .inr (0, 400), .inr (0, 400), .inr (0, 400), .inl (0, [0, 0, 25, 26, 27, 28, 29, 0, 30, 31, 32, 33, 0, 34, 35, 36]), .inr (0, 20), .inr (0, 20), .inr (0, 20), .inr (0, 20), .inr (0, 20), .inr (0, 16), .inr (0, 16), .inr (0, 16), .inr (0, 16), .inr (0, 400), .inr (0, 400), .inr (0, 400), .inl (4, [6, 11, 38, 39, 0, 0, 0]), .inr (1, 10), .inr (1, 20), .inl (7, [24, 41, 42, 0, 0, 0]), .inr (0, 20), .inr (0, 20), .inl (3, [2, 44, 45, 46, 0, 0, 0]), .inr (1, 16), .inr (1, 16), .inr (1, 320)]
def X3_init_40_y7 : List Kd := [.inl (8, [4, 6, 11, 24, 37, 40, 2, 2, 2, 2, 0]), .inl (5, [5, 0]), .inr (2, 2000), .inl (6, [7, 8, 9, 10, 0, 0, 1]), .inr (1, 27), .inr (0, 401), .inr (0, 401), .inr (1, 401), .inl (0, [0, 0, 12, 13, 14, 15, 16, 0, 17, 18, 19, 20, 0, 21, 22, 23]), .inr (0, 20), .inr (0, 20), .inr (0, 20), .inr (0, 20), .inr (0, 20), .inr (0, 16), .inr (0, 16), .inr (0, 16), .inr (0, 16), .inr (0, 400), .inr (0, 400), .inr (0, 400), .inl (0, [0, 0, 25, 26, 27, 28, 29, 0, 30, 31, 32, 33, 0, 34, 35, 36]), .inr (0, 20), .inr (0, 20), .inr (0, 20), .inr (0, 20), .inr (0, 20), .inr (0, 16), .inr (0, 16), .inr (0, 16), .inr (0, 16), .inr (0, 400), .inr (0, 400), .inr (0, 400), .inl (4, [6, 11, 38, 39, 0, 0, 0]), .inr (1, 10), .inr (1, 20), .inl (7, [24, 41, 42, 0, 0, 0]), .inr (0, 20), .inr (0, 20), .inl (3, [24, 44, 45, 46, 0, 0, 0]), .inr (1, 16), .inr (1, 16), .inr (1, 320)]
set_option maxHeartbeats 4000000 in
set_option maxRecDepth 100000 in
theorem c_X3_init_40 {g : Gx} {a : Nat → Nat} {x : XS}  : Mz g yX3_init cX3_init 2 none 2 3 352 YX3_init_40 a x [.ref (a 40), .ref (a 21)] (fun v lay' a1 x' => v = none ∧ lay' = X3_init_40_y7 ∧ x' = i_X3_init_40 x ∧ ∀ j, (j < 41 ∨ 44 ≤ j) → a1 j = a j) := by
  refine Mz_of (by decide +kernel) (Nat.le_of_ble_eq_true rfl) ?_
  intro k hk he hg
  subst hg
  refine xaload_n hk dX3_init_0 rfl ?_
  refine xobjInit hk dX3_init_1 kX3_3 (by first | decide | omega) (Nat.le_of_ble_eq_true rfl) ?_
  refine xaload_n hk dX3_init_4 rfl ?_
  refine xbipush (v := 16) hk dX3_init_5 (by decide) ?_
  refine xnewL (N := 16) hk dX3_init_7 (by decide) (by decide) (Nat.le_of_ble_eq_true rfl) (Nat.le_of_ble_eq_true rfl) (Nat.le_of_ble_eq_true rfl) (by decide +kernel) ?_
  intro a1 ha1
  rw [show YX3_init_40.length = 41 from rfl] at ha1 ⊢
  refine xlay (lay' := X3_init_40_y1) rfl ?_
  rw [← ha1 21 (by decide)]
  rw [← ha1 40 (by decide)]
  refine xputF (q := 40) (ci := 3) (f := 1) (j := 41) hk dX3_init_9 rfl (by decide) rfl (by decide) kX3_11 rfl rfl (tyX3_ok 1 (by decide)) (fun _ => ⟨rfl, rfl⟩) ?_
  refine xlay (lay' := X3_init_40_y2) rfl ?_
  refine xaload_n hk dX3_init_12 rfl ?_
  refine xbipush (v := 16) hk dX3_init_13 (by decide) ?_
  refine xnewL (N := 16) hk dX3_init_15 (by decide) (by decide) (Nat.le_of_ble_eq_true rfl) (Nat.le_of_ble_eq_true rfl) (Nat.le_of_ble_eq_true rfl) (by decide +kernel) ?_
  intro a2 ha2
  rw [show X3_init_40_y2.length = 42 from rfl] at ha2 ⊢
  refine xlay (lay' := X3_init_40_y3) rfl ?_
  rw [← ha2 21 (by decide)]
  rw [← ha2 40 (by decide)]
  refine xputF (q := 40) (ci := 3) (f := 2) (j := 42) hk dX3_init_17 rfl (by decide) rfl (by decide) kX3_15 rfl rfl (tyX3_ok 2 (by decide)) (fun _ => ⟨rfl, rfl⟩) ?_
  refine xlay (lay' := X3_init_40_y4) rfl ?_
  refine xaload_n hk dX3_init_20 rfl ?_
  refine xsipush (v := 320) hk dX3_init_21 (by decide) ?_
  refine xnewL (N := 320) hk dX3_init_24 (by decide) (by decide) (Nat.le_of_ble_eq_true rfl) (Nat.le_of_ble_eq_true rfl) (Nat.le_of_ble_eq_true rfl) (by decide +kernel) ?_
  intro a3 ha3
  rw [show X3_init_40_y4.length = 43 from rfl] at ha3 ⊢
  refine xlay (lay' := X3_init_40_y5) rfl ?_
  rw [← ha3 21 (by decide)]
  rw [← ha3 40 (by decide)]
  refine xputF (q := 40) (ci := 3) (f := 3) (j := 43) hk dX3_init_26 rfl (by decide) rfl (by decide) kX3_18 rfl rfl (tyX3_ok 3 (by decide)) (fun _ => ⟨rfl, rfl⟩) ?_
  refine xlay (lay' := X3_init_40_y6) rfl ?_
  refine xaload_n hk dX3_init_29 rfl ?_
  refine xiconst (v := 1) hk dX3_init_30 (by decide) ?_
  refine xputI (ci := 3) (f := 4) hk dX3_init_31 ⟨rfl, by decide, _, rfl, rfl⟩ kX3_21 ⟨rfl, by decide +kernel⟩ ?_
  refine xaload_n hk dX3_init_34 rfl ?_
  refine xiconst (v := (-1)) hk dX3_init_35 (by decide) ?_
  refine xputI (ci := 3) (f := 6) hk dX3_init_36 ⟨rfl, by decide, _, rfl, rfl⟩ kX3_25 ⟨rfl, by decide +kernel⟩ ?_
  refine xaload_n hk dX3_init_39 rfl ?_
  refine xaload_n hk dX3_init_40 rfl ?_
  refine xputF (q := 40) (ci := 3) (f := 0) (j := 21) hk dX3_init_41 rfl (by decide) rfl (by decide) kX3_28 rfl rfl (tyX3_ok 0 (by decide)) (fun _ => ⟨rfl, rfl⟩) ?_
  refine xlay (lay' := X3_init_40_y7) rfl ?_
  refine xvretZ hk he dX3_init_44 ⟨Nat.le_of_ble_eq_true rfl, Nat.le_of_ble_eq_true rfl⟩ ?_
  exact ⟨rfl, rfl, rfl, fun j hj => ((ha3 j (by omega)).trans ((ha2 j (by omega)).trans (ha1 j (by omega))))⟩

def YX2_init_44 : List Kd := [.inl (8, [4, 6, 11, 24, 37, 40, 43, 2, 2, 2, 0]), .inl (5, [5, 0]), .inr (2, 2000), .inl (6, [7, 8, 9, 10, 0, 0, 1]), .inr (1, 27), .inr (0, 401), .inr (0, 401), .inr (1, 401), .inl (0, [0, 0, 12, 13, 14, 15, 16, 0, 17, 18, 19, 20, 0, 21, 22, 23]), .inr (0, 20), .inr (0, 20), .inr (0, 20), .inr (0, 20), .inr (0, 20), .inr (0, 16), .inr (0, 16), .inr (0, 16), .inr (0, 16), .inr (0, 400), .inr (0, 400), .inr (0, 400), .inl (0, [0, 0, 25, 26, 27, 28, 29, 0, 30, 31, 32, 33, 0, 34, 35, 36]), .inr (0, 20), .inr (0, 20), .inr (0, 20), .inr (0, 20), .inr (0, 20), .inr (0, 16), .inr (0, 16), .inr (0, 16), .inr (0, 16), .inr (0, 400), .inr (0, 400), .inr (0, 400), .inl (4, [6, 11, 38, 39, 0, 0, 0]), .inr (1, 10), .inr (1, 20), .inl (7, [24, 41, 42, 0, 0, 0]), .inr (0, 20), .inr (0, 20), .inl (3, [24, 44, 45, 46, 0, 0, 0]), .inr (1, 16), .inr (1, 16), .inr (1, 320), .inl (2, [2, 2, 2, 2, 0])]
def i_X2_init_44 (x : XS) : XS := (clr x 45)
def X2_init_44_y1 : List Kd := [.inl (8, [4, 6, 11, 24, 37, 40, 43, 2, 2, 2, 0]), .inl (5, [5, 0]), .inr (2, 2000), .inl (6, [7, 8, 9, 10, 0, 0, 1]), .inr (1, 27), .inr (0, 401), .inr (0, 401), .inr (1, 401), .inl (0, [0, 0, 12, 13, 14, 15, 16, 0, 17, 18, 19, 20, 0, 21, 22, 23]), .inr (0, 20), .inr (0, 20), .inr (0, 20), .inr (0, 20), .inr (0, 20), .inr (0, 16), .inr (0, 16), .inr (0, 16), .inr (0, 16), .inr (0, 400), .inr (0, 400), .inr (0, 400), .inl (0, [0, 0, 25, 26, 27, 28, 29, 0, 30, 31, 32, 33, 0, 34, 35, 36]), .inr (0, 20), .inr (0, 20), .inr (0, 20), .inr (0, 20), .inr (0, 20), .inr (0, 16), .inr (0, 16), .inr (0, 16), .inr (0, 16), .inr (0, 400), .inr (0, 400), .inr (0, 400), .inl (4, [6, 11, 38, 39, 0, 0, 0]), .inr (1, 10), .inr (1, 20), .inl (7, [24, 41, 42, 0, 0, 0]), .inr (0, 20), .inr (0, 20), .inl (3, [24, 44, 45, 46, 0, 0, 0]), .inr (1, 16), .inr (1, 16), .inr (1, 320), .inl (2, [2, 2, 2, 2, 0]), .inr (0, 400)]
def X2_init_44_y2 : List Kd := [.inl (8, [4, 6, 11, 24, 37, 40, 43, 2, 2, 2, 0]), .inl (5, [5, 0]), .inr (2, 2000), .inl (6, [7, 8, 9, 10, 0, 0, 1]), .inr (1, 27), .inr (0, 401), .inr (0, 401), .inr (1, 401), .inl (0, [0, 0, 12, 13, 14, 15, 16, 0, 17, 18, 19, 20, 0, 21, 22, 23]), .inr (0, 20), .inr (0, 20), .inr (0, 20), .inr (0, 20), .inr (0, 20), .inr (0, 16), .inr (0, 16), .inr (0, 16), .inr (0, 16), .inr (0, 400), .inr (0, 400), .inr (0, 400), .inl (0, [0, 0, 25, 26, 27, 28, 29, 0, 30, 31, 32, 33, 0, 34, 35, 36]), .inr (0, 20), .inr (0, 20), .inr (0, 20), .inr (0, 20), .inr (0, 20), .inr (0, 16), .inr (0, 16), .inr (0, 16), .inr (0, 16), .inr (0, 400), .inr (0, 400), .inr (0, 400), .inl (4, [6, 11, 38, 39, 0, 0, 0]), .inr (1, 10), .inr (1, 20), .inl (7, [24, 41, 42, 0, 0, 0]), .inr (0, 20), .inr (0, 20), .inl (3, [24, 44, 45, 46, 0, 0, 0]), .inr (1, 16), .inr (1, 16), .inr (1, 320), .inl (2, [2, 2, 2, 48, 0]), .inr (0, 400)]
def X2_init_44_y3 : List Kd := [.inl (8, [4, 6, 11, 24, 37, 40, 43, 2, 2, 2, 0]), .inl (5, [5, 0]), .inr (2, 2000), .inl (6, [7, 8, 9, 10, 0, 0, 1]), .inr (1, 27), .inr (0, 401), .inr (0, 401), .inr (1, 401), .inl (0, [0, 0, 12, 13, 14, 15, 16, 0, 17, 18, 19, 20, 0, 21, 22, 23]), .inr (0, 20), .inr (0, 20), .inr (0, 20), .inr (0, 20), .inr (0, 20), .inr (0, 16), .inr (0, 16), .inr (0, 16), .inr (0, 16), .inr (0, 400), .inr (0, 400), .inr (0, 400), .inl (0, [0, 0, 25, 26, 27, 28, 29, 0, 30, 31, 32, 33, 0, 34, 35, 36]), .inr (0, 20), .inr (0, 20), .inr (0, 20), .inr (0, 20), .inr (0, 20), .inr (0, 16), .inr (0, 16), .inr (0, 16), .inr (0, 16), .inr (0, 400), .inr (0, 400), .inr (0, 400), .inl (4, [6, 11, 38, 39, 0, 0, 0]), .inr (1, 10), .inr (1, 20), .inl (7, [24, 41, 42, 0, 0, 0]), .inr (0, 20), .inr (0, 20), .inl (3, [24, 44, 45, 46, 0, 0, 0]), .inr (1, 16), .inr (1, 16), .inr (1, 320), .inl (2, [24, 2, 2, 48, 0]), .inr (0, 400)]
def X2_init_44_y4 : List Kd := [.inl (8, [4, 6, 11, 24, 37, 40, 43, 2, 2, 2, 0]), .inl (5, [5, 0]), .inr (2, 2000), .inl (6, [7, 8, 9, 10, 0, 0, 1]), .inr (1, 27), .inr (0, 401), .inr (0, 401), .inr (1, 401), .inl (0, [0, 0, 12, 13, 14, 15, 16, 0, 17, 18, 19, 20, 0, 21, 22, 23]), .inr (0, 20), .inr (0, 20), .inr (0, 20), .inr (0, 20), .inr (0, 20), .inr (0, 16), .inr (0, 16), .inr (0, 16), .inr (0, 16), .inr (0, 400), .inr (0, 400), .inr (0, 400), .inl (0, [0, 0, 25, 26, 27, 28, 29, 0, 30, 31, 32, 33, 0, 34, 35, 36]), .inr (0, 20), .inr (0, 20), .inr (0, 20), .inr (0, 20), .inr (0, 20), .inr (0, 16), .inr (0, 16), .inr (0, 16), .inr (0, 16), .inr (0, 400), .inr (0, 400), .inr (0, 400), .inl (4, [6, 11, 38, 39, 0, 0, 0]), .inr (1, 10), .inr (1, 20), .inl (7, [24, 41, 42, 0, 0, 0]), .inr (0, 20), .inr (0, 20), .inl (3, [24, 44, 45, 46, 0, 0, 0]), .inr (1, 16), .inr (1, 16), .inr (1, 320), .inl (2, [24, 40, 2, 48, 0]), .inr (0, 400)]
def X2_init_44_y5 : List Kd := [.inl (8, [4, 6, 11, 24, 37, 40, 43, 2, 2, 2, 0]), .inl (5, [5, 0]), .inr (2, 2000), .inl (6, [7, 8, 9, 10, 0, 0, 1]), .inr (1, 27), .inr (0, 401), .inr (0, 401), .inr (1, 401), .inl (0, [0, 0, 12, 13, 14, 15, 16, 0, 17, 18, 19, 20, 0, 21, 22, 23]), .inr (0, 20), .inr (0, 20), .inr (0, 20), .inr (0, 20), .inr (0, 20), .inr (0, 16), .inr (0, 16), .inr (0, 16), .inr (0, 16), .inr (0, 400), .inr (0, 400), .inr (0, 400), .inl (0, [0, 0, 25, 26, 27, 28, 29, 0, 30, 31, 32, 33, 0, 34, 35, 36]), .inr (0, 20), .inr (0, 20), .inr (0, 20), .inr (0, 20), .inr (0, 20), .inr (0, 16), .inr (0, 16), .inr (0, 16), .inr (0, 16), .inr (0, 400), .inr (0, 400), .inr (0, 400), .inl (4, [6, 11, 38, 39, 0, 0, 0]), .inr (1, 10), .inr (1, 20), .inl (7, [24, 41, 42, 0, 0, 0]), .inr (0, 20), .inr (0, 20), .inl (3, [24, 44, 45, 46, 0, 0, 0]), .inr (1, 16), .inr (1, 16), .inr (1, 320), .inl (2, [24, 40, 43, 48, 0]), .inr (0, 400)]
set_option maxHeartbeats 4000000 in
set_option maxRecDepth 100000 in
theorem c_X2_init_44 {g : Gx} {a : Nat → Nat} {x : XS}  : Mz g yX2_init cX2_init 4 none 2 1 400 YX2_init_44 a x [.ref (a 44), .ref (a 21), .ref (a 37), .ref (a 40)] (fun v lay' a1 x' => v = none ∧ lay' = X2_init_44_y5 ∧ x' = i_X2_init_44 x ∧ ∀ j, (j < 45 ∨ 46 ≤ j) → a1 j = a j) := by
  refine Mz_of (by decide +kernel) (Nat.le_of_ble_eq_true rfl) ?_
  intro k hk he hg
  subst hg
  refine xaload_n hk dX2_init_0 rfl ?_
  refine xobjInit hk dX2_init_1 kX2_3 (by first | decide | omega) (Nat.le_of_ble_eq_true rfl) ?_
  refine xaload_n hk dX2_init_4 rfl ?_
  refine xsipush (v := 400) hk dX2_init_5 (by decide) ?_
  refine xnewI (N := 400) hk dX2_init_8 (by decide) (by decide) (Nat.le_of_ble_eq_true rfl) (Nat.le_of_ble_eq_true rfl) (Nat.le_of_ble_eq_true rfl) (by decide +kernel) ?_
  intro a1 ha1
  rw [show YX2_init_44.length = 45 from rfl] at ha1 ⊢
  refine xlay (lay' := X2_init_44_y1) rfl ?_
  rw [← ha1 21 (by decide)]
  rw [← ha1 37 (by decide)]
  rw [← ha1 40 (by decide)]
  rw [← ha1 44 (by decide)]
  refine xputF (q := 44) (ci := 2) (f := 3) (j := 45) hk dX2_init_10 rfl (by decide) rfl (by decide) kX2_9 rfl rfl (tyX2_ok 3 (by decide)) (fun _ => ⟨rfl, rfl⟩) ?_
  refine xlay (lay' := X2_init_44_y2) rfl ?_
  refine xaload_n hk dX2_init_13 rfl ?_
  refine xaload_n hk dX2_init_14 rfl ?_
  refine xputF (q := 44) (ci := 2) (f := 0) (j := 21) hk dX2_init_15 rfl (by decide) rfl (by decide) kX2_15 rfl rfl (tyX2_ok 0 (by decide)) (fun _ => ⟨rfl, rfl⟩) ?_
  refine xlay (lay' := X2_init_44_y3) rfl ?_
  refine xaload_n hk dX2_init_18 rfl ?_
  refine xaload_n hk dX2_init_19 rfl ?_
  refine xputF (q := 44) (ci := 2) (f := 1) (j := 37) hk dX2_init_20 rfl (by decide) rfl (by decide) kX2_19 rfl rfl (tyX2_ok 1 (by decide)) (fun _ => ⟨rfl, rfl⟩) ?_
  refine xlay (lay' := X2_init_44_y4) rfl ?_
  refine xaload_n hk dX2_init_23 rfl ?_
  refine xaload_n hk dX2_init_24 rfl ?_
  refine xputF (q := 44) (ci := 2) (f := 2) (j := 40) hk dX2_init_25 rfl (by decide) rfl (by decide) kX2_23 rfl rfl (tyX2_ok 2 (by decide)) (fun _ => ⟨rfl, rfl⟩) ?_
  refine xlay (lay' := X2_init_44_y5) rfl ?_
  refine xvretZ hk he dX2_init_28 ⟨Nat.le_of_ble_eq_true rfl, Nat.le_of_ble_eq_true rfl⟩ ?_
  exact ⟨rfl, rfl, rfl, fun j hj => (ha1 j (by omega))⟩

def YX1_init_46 : List Kd := [.inl (8, [4, 6, 11, 24, 37, 40, 43, 47, 2, 2, 0]), .inl (5, [5, 0]), .inr (2, 2000), .inl (6, [7, 8, 9, 10, 0, 0, 1]), .inr (1, 27), .inr (0, 401), .inr (0, 401), .inr (1, 401), .inl (0, [0, 0, 12, 13, 14, 15, 16, 0, 17, 18, 19, 20, 0, 21, 22, 23]), .inr (0, 20), .inr (0, 20), .inr (0, 20), .inr (0, 20), .inr (0, 20), .inr (0, 16), .inr (0, 16), .inr (0, 16), .inr (0, 16), .inr (0, 400), .inr (0, 400), .inr (0, 400), .inl (0, [0, 0, 25, 26, 27, 28, 29, 0, 30, 31, 32, 33, 0, 34, 35, 36]), .inr (0, 20), .inr (0, 20), .inr (0, 20), .inr (0, 20), .inr (0, 20), .inr (0, 16), .inr (0, 16), .inr (0, 16), .inr (0, 16), .inr (0, 400), .inr (0, 400), .inr (0, 400), .inl (4, [6, 11, 38, 39, 0, 0, 0]), .inr (1, 10), .inr (1, 20), .inl (7, [24, 41, 42, 0, 0, 0]), .inr (0, 20), .inr (0, 20), .inl (3, [24, 44, 45, 46, 0, 0, 0]), .inr (1, 16), .inr (1, 16), .inr (1, 320), .inl (2, [24, 40, 43, 48, 0]), .inr (0, 400), .inl (1, [0, 0, 0])]
def i_X1_init_46 (x : XS) : XS := x

set_option maxHeartbeats 4000000 in
set_option maxRecDepth 100000 in
theorem c_X1_init_46 {g : Gx} {a : Nat → Nat} {x : XS}  : Mz g yX1_init cX1_init 1 none 2 0 0 YX1_init_46 a x [.ref (a 46)] (fun v lay' a1 x' => v = none ∧ lay' = YX1_init_46 ∧ x' = i_X1_init_46 x ∧ ∀ j, (j < 47 ∨ 47 ≤ j) → a1 j = a j) := by
  refine Mz_of (by decide +kernel) (Nat.le_of_ble_eq_true rfl) ?_
  intro k hk he hg
  subst hg
  refine xaload_n hk dX1_init_0 rfl ?_
  refine xobjInit hk dX1_init_1 kX1_1 (by first | decide | omega) (Nat.le_of_ble_eq_true rfl) ?_
  refine xvretZ hk he dX1_init_4 ⟨Nat.le_of_ble_eq_true rfl, Nat.le_of_ble_eq_true rfl⟩ ?_
  exact ⟨rfl, rfl, rfl, fun j hj => rfl⟩

def YX1_init_47 : List Kd := [.inl (8, [4, 6, 11, 24, 37, 40, 43, 47, 49, 2, 0]), .inl (5, [5, 0]), .inr (2, 2000), .inl (6, [7, 8, 9, 10, 0, 0, 1]), .inr (1, 27), .inr (0, 401), .inr (0, 401), .inr (1, 401), .inl (0, [0, 0, 12, 13, 14, 15, 16, 0, 17, 18, 19, 20, 0, 21, 22, 23]), .inr (0, 20), .inr (0, 20), .inr (0, 20), .inr (0, 20), .inr (0, 20), .inr (0, 16), .inr (0, 16), .inr (0, 16), .inr (0, 16), .inr (0, 400), .inr (0, 400), .inr (0, 400), .inl (0, [0, 0, 25, 26, 27, 28, 29, 0, 30, 31, 32, 33, 0, 34, 35, 36]), .inr (0, 20), .inr (0, 20), .inr (0, 20), .inr (0, 20), .inr (0, 20), .inr (0, 16), .inr (0, 16), .inr (0, 16), .inr (0, 16), .inr (0, 400), .inr (0, 400), .inr (0, 400), .inl (4, [6, 11, 38, 39, 0, 0, 0]), .inr (1, 10), .inr (1, 20), .inl (7, [24, 41, 42, 0, 0, 0]), .inr (0, 20), .inr (0, 20), .inl (3, [24, 44, 45, 46, 0, 0, 0]), .inr (1, 16), .inr (1, 16), .inr (1, 320), .inl (2, [24, 40, 43, 48, 0]), .inr (0, 400), .inl (1, [0, 0, 0]), .inl (1, [0, 0, 0])]
def i_X1_init_47 (x : XS) : XS := x

set_option maxHeartbeats 4000000 in
set_option maxRecDepth 100000 in
theorem c_X1_init_47 {g : Gx} {a : Nat → Nat} {x : XS}  : Mz g yX1_init cX1_init 1 none 2 0 0 YX1_init_47 a x [.ref (a 47)] (fun v lay' a1 x' => v = none ∧ lay' = YX1_init_47 ∧ x' = i_X1_init_47 x ∧ ∀ j, (j < 48 ∨ 48 ≤ j) → a1 j = a j) := by
  refine Mz_of (by decide +kernel) (Nat.le_of_ble_eq_true rfl) ?_
  intro k hk he hg
  subst hg
  refine xaload_n hk dX1_init_0 rfl ?_
  refine xobjInit hk dX1_init_1 kX1_1 (by first | decide | omega) (Nat.le_of_ble_eq_true rfl) ?_
  refine xvretZ hk he dX1_init_4 ⟨Nat.le_of_ble_eq_true rfl, Nat.le_of_ble_eq_true rfl⟩ ?_
  exact ⟨rfl, rfl, rfl, fun j hj => rfl⟩

def YX8_init_0 : List Kd := [.inl (8, [2, 2, 2, 2, 2, 2, 2, 2, 2, 2, 0])]
def i_X8_init (x : XS) : XS := (setI (i_X1_init_47 (clr (i_X1_init_46 (clr (i_X2_init_44 (clr (i_X3_init_40 (clr (i_X7_init_37 (clr (i_X4_init_34 (clr (i_X0_init_21 (clr (i_X0_init_8 (clr (i_X6_init_3 (clr (i_X5_init_1 (clr x 1)) 3)) 8)) 21)) 34)) 37)) 40)) 44)) 46)) 47)) 0 10 (-1))
def X8_init_y1 : List Kd := [.inl (8, [2, 2, 2, 2, 2, 2, 2, 2, 2, 2, 0]), .inl (5, [2, 0])]
def X8_init_y2 : List Kd := [.inl (8, [2, 2, 2, 2, 2, 2, 2, 2, 2, 2, 0]), .inl (5, [5, 0]), .inr (2, 2000)]
def X8_init_y3 : List Kd := [.inl (8, [4, 2, 2, 2, 2, 2, 2, 2, 2, 2, 0]), .inl (5, [5, 0]), .inr (2, 2000)]
def X8_init_y4 : List Kd := [.inl (8, [4, 2, 2, 2, 2, 2, 2, 2, 2, 2, 0]), .inl (5, [5, 0]), .inr (2, 2000), .inl (6, [2, 2, 2, 2, 0, 0, 1])]
def X8_init_y5 : List Kd := [.inl (8, [4, 2, 2, 2, 2, 2, 2, 2, 2, 2, 0]), .inl (5, [5, 0]), .inr (2, 2000), .inl (6, [7, 8, 9, 10, 0, 0, 1]), .inr (1, 27), .inr (0, 401), .inr (0, 401), .inr (1, 401)]
def X8_init_y6 : List Kd := [.inl (8, [4, 6, 2, 2, 2, 2, 2, 2, 2, 2, 0]), .inl (5, [5, 0]), .inr (2, 2000), .inl (6, [7, 8, 9, 10, 0, 0, 1]), .inr (1, 27), .inr (0, 401), .inr (0, 401), .inr (1, 401)]
def X8_init_y7 : List Kd := [.inl (8, [4, 6, 2, 2, 2, 2, 2, 2, 2, 2, 0]), .inl (5, [5, 0]), .inr (2, 2000), .inl (6, [7, 8, 9, 10, 0, 0, 1]), .inr (1, 27), .inr (0, 401), .inr (0, 401), .inr (1, 401), .inl (0, [0, 0, 2, 2, 2, 2, 2, 0, 2, 2, 2, 2, 0, 2, 2, 2])]
def X8_init_y8 : List Kd := [.inl (8, [4, 6, 2, 2, 2, 2, 2, 2, 2, 2, 0]), .inl (5, [5, 0]), .inr (2, 2000), .inl (6, [7, 8, 9, 10, 0, 0, 1]), .inr (1, 27), .inr (0, 401), .inr (0, 401), .inr (1, 401), .inl (0, [0, 0, 12, 13, 14, 15, 16, 0, 17, 18, 19, 20, 0, 21, 22, 23]), .inr (0, 20), .inr (0, 20), .inr (0, 20), .inr (0, 20), .inr (0, 20), .inr (0, 16), .inr (0, 16), .inr (0, 16), .inr (0, 16), .inr (0, 400), .inr (0, 400), .inr (0, 400)]
def X8_init_y9 : List Kd := [.inl (8, [4, 6, 11, 2, 2, 2, 2, 2, 2, 2, 0]), .inl (5, [5, 0]), .inr (2, 2000), .inl (6, [7, 8, 9, 10, 0, 0, 1]), .inr (1, 27), .inr (0, 401), .inr (0, 401), .inr (1, 401), .inl (0, [0, 0, 12, 13, 14, 15, 16, 0, 17, 18, 19, 20, 0, 21, 22, 23]), .inr (0, 20), .inr (0, 20), .inr (0, 20), .inr (0, 20), .inr (0, 20), .inr (0, 16), .inr (0, 16), .inr (0, 16), .inr (0, 16), .inr (0, 400), .inr (0, 400), .inr (0, 400)]
def X8_init_y10 : List Kd := [.inl (8, [4, 6, 11, 2, 2, 2, 2, 2, 2, 2, 0]), .inl (5, [5, 0]), .inr (2, 2000), .inl (6, [7, 8, 9, 10, 0, 0, 1]), .inr (1, 27), .inr (0, 401), .inr (0, 401), .inr (1, 401), .inl (0, [0, 0, 12, 13, 14, 15, 16, 0, 17, 18, 19, 20, 0, 21, 22, 23]), .inr (0, 20), .inr (0, 20), .inr (0, 20), .inr (0, 20), .inr (0, 20), .inr (0, 16), .inr (0, 16), .inr (0, 16), .inr (0, 16), .inr (0, 400), .inr (0, 400), .inr (0, 400), .inl (0, [0, 0, 2, 2, 2, 2, 2, 0, 2, 2, 2, 2, 0, 2, 2, 2])]
def X8_init_y11 : List Kd := [.inl (8, [4, 6, 11, 2, 2, 2, 2, 2, 2, 2, 0]), .inl (5, [5, 0]), .inr (2, 2000), .inl (6, [7, 8, 9, 10, 0, 0, 1]), .inr (1, 27), .inr (0, 401), .inr (0, 401), .inr (1, 401), .inl (0, [0, 0, 12, 13, 14, 15, 16, 0, 17, 18, 19, 20, 0, 21, 22, 23]), .inr (0, 20), .inr (0, 20), .inr (0, 20), .inr (0, 20), .inr (0, 20), .inr (0, 16), .inr (0, 16), .inr (0, 16), .inr (0, 16), .inr (0, 400), .inr (0, 400), .inr (0, 400), .inl (0, [0, 0, 25, 26, 27, 28, 29, 0, 30, 31, 32, 33, 0, 34, 35, 36]), .inr (0, 20), .inr (0, 20), .inr (0, 20), .inr (0, 20), .inr (0, 20), .inr (0, 16), .inr (0, 16), .inr (0, 16), .inr (0, 16), .inr (0, 400), .inr (0, 400), .inr (0, 400)]
def X8_init_y12 : List Kd := [.inl (8, [4, 6, 11, 24, 2, 2, 2, 2, 2, 2, 0]), .inl (5, [5, 0]), .inr (2, 2000), .inl (6, [7, 8, 9, 10, 0, 0, 1]), .inr (1, 27), .inr (0, 401), .inr (0, 401), .inr (1, 401), .inl (0, [0, 0, 12, 13, 14, 15, 16, 0, 17, 18, 19, 20, 0, 21, 22, 23]), .inr (0, 20), .inr (0, 20), .inr (0, 20), .inr (0, 20), .inr (0, 20), .inr (0, 16), .inr (0, 16), .inr (0, 16), .inr (0, 16), .inr (0, 400), .inr (0, 400), .inr (0, 400), .inl (0, [0, 0, 25, 26, 27, 28, 29, 0, 30, 31, 32, 33, 0, 34, 35, 36]), .inr (0, 20), .inr (0, 20), .inr (0, 20), .inr (0, 20), .inr (0, 20), .inr (0, 16), .inr (0, 16), .inr (0, 16), .inr (0, 16), .inr (0, 400), .inr (0, 400), .inr (0, 400)]
def X8_init_y13 : List Kd := [.inl (8, [4, 6, 11, 24, 2, 2, 2, 2, 2, 2, 0]), .inl (5, [5, 0]), .inr (2, 2000), .inl (6, [7, 8, 9, 10, 0, 0, 1]), .inr (1, 27), .inr (0, 401), .inr (0, 401), .inr (1, 401), .inl (0, [0, 0, 12, 13, 14, 15, 16, 0, 17, 18, 19, 20, 0, 21, 22, 23]), .inr (0, 20), .inr (0, 20), .inr (0, 20), .inr (0, 20), .inr (0, 20), .inr (0, 16), .inr (0, 16), .inr (0, 16), .inr (0, 16), .inr (0, 400), .inr (0, 400), .inr (0, 400), .inl (0, [0, 0, 25, 26, 27, 28, 29, 0, 30, 31, 32, 33, 0, 34, 35, 36]), .inr (0, 20), .inr (0, 20), .inr (0, 20), .inr (0, 20), .inr (0, 20), .inr (0, 16), .inr (0, 16), .inr (0, 16), .inr (0, 16), .inr (0, 400), .inr (0, 400), .inr (0, 400), .inl (4, [2, 2, 2, 2, 0, 0, 0])]
def X8_init_y14 : List Kd := [.inl (8, [4, 6, 11, 24, 2, 2, 2, 2, 2, 2, 0]), .inl (5, [5, 0]), .inr (2, 2000), .inl (6, [7, 8, 9, 10, 0, 0, 1]), .inr (1, 27), .inr (0, 401), .inr (0, 401), .inr (1, 401), .inl (0, [0, 0, 12, 13, 14, 15, 16, 0, 17, 18, 19, 20, 0, 21, 22, 23]), .inr (0, 20), .inr (0, 20), .inr (0, 20), .inr (0, 20), .inr (0, 20), .inr (0, 16), .inr (0, 16), .inr (0, 16), .inr (0, 16), .inr (0, 400), .inr (0, 400), .inr (0, 400), .inl (0, [0, 0, 25, 26, 27, 28, 29, 0, 30, 31, 32, 33, 0, 34, 35, 36]), .inr (0, 20), .inr (0, 20), .inr (0, 20), .inr (0, 20), .inr (0, 20), .inr (0, 16), .inr (0, 16), .inr (0, 16), .inr (0, 16), .inr (0, 400), .inr (0, 400), .inr (0, 400), .inl (4, [6, 11, 38, 39, 0, 0, 0]), .inr (1, 10), .inr (1, 20)]
def X8_init_y15 : List Kd := [.inl (8, [4, 6, 11, 24, 37, 2, 2, 2, 2, 2, 0]), .inl (5, [5, 0]), .inr (2, 2000), .inl (6, [7, 8, 9, 10, 0, 0, 1]), .inr (1, 27), .inr (0, 401), .inr (0, 401), .inr (1, 401), .inl (0, [0, 0, 12, 13, 14, 15, 16, 0, 17, 18, 19, 20, 0, 21, 22, 23]), .inr (0, 20), .inr (0, 20), .inr (0, 20), .inr (0, 20), .inr (0, 20), .inr (0, 16), .inr (0, 16), .inr (0, 16), .inr (0, 16), .inr (0, 400), .inr (0, 400), .inr (0, 400), .inl (0, [0, 0, 25, 26, 27, 28, 29, 0, 30, 31, 32, 33, 0, 34, 35, 36]), .inr (0, 20), .inr (0, 20), .inr (0, 20), .inr (0, 20), .inr (0, 20), .inr (0, 16), .inr (0, 16), .inr (0, 16), .inr (0, 16), .inr (0, 400), .inr (0, 400), .inr (0, 400), .inl (4, [6, 11, 38, 39, 0, 0, 0]), .inr (1, 10), .inr (1, 20)]
def X8_init_y16 : List Kd := [.inl (8, [4, 6, 11, 24, 37, 2, 2, 2, 2, 2, 0]), .inl (5, [5, 0]), .inr (2, 2000), .inl (6, [7, 8, 9, 10, 0, 0, 1]), .inr (1, 27), .inr (0, 401), .inr (0, 401), .inr (1, 401), .inl (0, [0, 0, 12, 13, 14, 15, 16, 0, 17, 18, 19, 20, 0, 21, 22, 23]), .inr (0, 20), .inr (0, 20), .inr (0, 20), .inr (0, 20), .inr (0, 20), .inr (0, 16), .inr (0, 16), .inr (0, 16), .inr (0, 16), .inr (0, 400), .inr (0, 400), .inr (0, 400), .inl (0, [0, 0, 25, 26, 27, 28, 29, 0, 30, 31, 32, 33, 0, 34, 35, 36]), .inr (0, 20), .inr (0, 20), .inr (0, 20), .inr (0, 20), .inr (0, 20), .inr (0, 16), .inr (0, 16), .inr (0, 16), .inr (0, 16), .inr (0, 400), .inr (0, 400), .inr (0, 400), .inl (4, [6, 11, 38, 39, 0, 0, 0]), .inr (1, 10), .inr (1, 20), .inl (7, [2, 2, 2, 0, 0, 0])]
def X8_init_y17 : List Kd := [.inl (8, [4, 6, 11, 24, 37, 2, 2, 2, 2, 2, 0]), .inl (5, [5, 0]), .inr (2, 2000), .inl (6, [7, 8, 9, 10, 0, 0, 1]), .inr (1, 27), .inr (0, 401), .inr (0, 401), .inr (1, 401), .inl (0, [0, 0, 12, 13, 14, 15, 16, 0, 17, 18, 19, 20, 0, 21, 22, 23]), .inr (0, 20), .inr (0, 20), .inr (0, 20), .inr (0, 20), .inr (0, 20), .inr (0, 16), .inr (0, 16), .inr (0, 16), .inr (0, 16), .inr (0, 400), .inr (0, 400), .inr (0, 400), .inl (0, [0, 0, 25, 26, 27, 28, 29, 0, 30, 31, 32, 33, 0, 34, 35, 36]), .inr (0, 20), .inr (0, 20), .inr (0, 20), .inr (0, 20), .inr (0, 20), .inr (0, 16), .inr (0, 16), .inr (0, 16), .inr (0, 16), .inr (0, 400), .inr (0, 400), .inr (0, 400), .inl (4, [6, 11, 38, 39, 0, 0, 0]), .inr (1, 10), .inr (1, 20), .inl (7, [24, 41, 42, 0, 0, 0]), .inr (0, 20), .inr (0, 20)]
def X8_init_y18 : List Kd := [.inl (8, [4, 6, 11, 24, 37, 40, 2, 2, 2, 2, 0]), .inl (5, [5, 0]), .inr (2, 2000), .inl (6, [7, 8, 9, 10, 0, 0, 1]), .inr (1, 27), .inr (0, 401), .inr (0, 401), .inr (1, 401), .inl (0, [0, 0, 12, 13, 14, 15, 16, 0, 17, 18, 19, 20, 0, 21, 22, 23]), .inr (0, 20), .inr (0, 20), .inr (0, 20), .inr (0, 20), .inr (0, 20), .inr (0, 16), .inr (0, 16), .inr (0, 16), .inr (0, 16), .inr (0, 400), .inr (0, 400), .inr (0, 400), .inl (0, [0, 0, 25, 26, 27, 28, 29, 0, 30, 31, 32, 33, 0, 34, 35, 36]), .inr (0, 20), .inr (0, 20), .inr (0, 20), .inr (0, 20), .inr (0, 20), .inr (0, 16), .inr (0, 16), .inr (0, 16), .inr (0, 16), .inr (0, 400), .inr (0, 400), .inr (0, 400), .inl (4, [6, 11, 38, 39, 0, 0, 0]), .inr (1, 10), .inr (1, 20), .inl (7, [24, 41, 42, 0, 0, 0]), .inr (0, 20), .inr (0, 20)]
def X8_init_y19 : List Kd := [.inl (8, [4, 6, 11, 24, 37, 40, 2, 2, 2, 2, 0]), .inl (5, [5, 0]), .inr (2, 2000), .inl (6, [7, 8, 9, 10, 0, 0, 1]), .inr (1, 27), .inr (0, 401), .inr (0, 401), .inr (1, 401), .inl (0, [0, 0, 12, 13, 14, 15, 16, 0, 17, 18, 19, 20, 0, 21, 22, 23]), .inr (0, 20), .inr (0, 20), .inr (0, 20), .inr (0, 20), .inr (0, 20), .inr (0, 16), .inr (0, 16), .inr (0, 16), .inr (0, 16), .inr (0, 400), .inr (0, 400), .inr (0, 400), .inl (0, [0, 0, 25, 26, 27, 28, 29, 0, 30, 31, 32, 33, 0, 34, 35, 36]), .inr (0, 20), .inr (0, 20), .inr (0, 20), .inr (0, 20), .inr (0, 20), .inr (0, 16), .inr (0, 16), .inr (0, 16), .inr (0, 16), .inr (0, 400), .inr (0, 400), .inr (0, 400), .inl (4, [6, 11, 38, 39, 0, 0, 0]), .inr (1, 10), .inr (1, 20), .inl (7, [24, 41, 42, 0, 0, 0]), .inr (0, 20), .inr (0, 20), .inl (3, [2, 2, 2, 2, 0, 0, 0])]
def X8_init_y20 : List Kd := [.inl (8, [4, 6, 11, 24, 37, 40, 2, 2, 2, 2, 0]), .inl (5, [5, 0]), .inr (2, 2000), .inl (6, [7, 8, 9, 10, 0, 0, 1]), .inr (1, 27), .inr (0, 401), .inr (0, 401), .inr (1, 401), .inl (0, [0, 0, 12, 13, 14, 15, 16, 0, 17, 18, 19, 20, 0, 21, 22, 23]), .inr (0, 20), .inr (0, 20), .inr (0, 20), .inr (0, 20), .inr (0, 20), .inr (0, 16), .inr (0, 16), .inr (0, 16), .inr (0, 16), .inr (0, 400), .inr (0, 400), .inr (0, 400), .inl (0, [0, 0, 25, 26, 27, 28, 29, 0, 30, 31, 32, 33, 0, 34, 35, 36]), .inr (0, 20), .inr (0, 20), .inr (0, 20), .inr (0, 20), .inr (0, 20), .inr (0, 16), .inr (0, 16), .inr (0, 16), .inr (0, 16), .inr (0, 400), .inr (0, 400), .inr (0, 400), .inl (4, [6, 11, 38, 39, 0, 0, 0]), .inr (1, 10), .inr (1, 20), .inl (7, [24, 41, 42, 0, 0, 0]), .inr (0, 20), .inr (0, 20), .inl (3, [24, 44, 45, 46, 0, 0, 0]), .inr (1, 16), .inr (1, 16), .inr (1, 320)]
def X8_init_y21 : List Kd := [.inl (8, [4, 6, 11, 24, 37, 40, 43, 2, 2, 2, 0]), .inl (5, [5, 0]), .inr (2, 2000), .inl (6, [7, 8, 9, 10, 0, 0, 1]), .inr (1, 27), .inr (0, 401), .inr (0, 401), .inr (1, 401), .inl (0, [0, 0, 12, 13, 14, 15, 16, 0, 17, 18, 19, 20, 0, 21, 22, 23]), .inr (0, 20), .inr (0, 20), .inr (0, 20), .inr (0, 20), .inr (0, 20), .inr (0, 16), .inr (0, 16), .inr (0, 16), .inr (0, 16), .inr (0, 400), .inr (0, 400), .inr (0, 400), .inl (0, [0, 0, 25, 26, 27, 28, 29, 0, 30, 31, 32, 33, 0, 34, 35, 36]), .inr (0, 20), .inr (0, 20), .inr (0, 20), .inr (0, 20), .inr (0, 20), .inr (0, 16), .inr (0, 16), .inr (0, 16), .inr (0, 16), .inr (0, 400), .inr (0, 400), .inr (0, 400), .inl (4, [6, 11, 38, 39, 0, 0, 0]), .inr (1, 10), .inr (1, 20), .inl (7, [24, 41, 42, 0, 0, 0]), .inr (0, 20), .inr (0, 20), .inl (3, [24, 44, 45, 46, 0, 0, 0]), .inr (1, 16), .inr (1, 16), .inr (1, 320)]
def X8_init_y22 : List Kd := [.inl (8, [4, 6, 11, 24, 37, 40, 43, 2, 2, 2, 0]), .inl (5, [5, 0]), .inr (2, 2000), .inl (6, [7, 8, 9, 10, 0, 0, 1]), .inr (1, 27), .inr (0, 401), .inr (0, 401), .inr (1, 401), .inl (0, [0, 0, 12, 13, 14, 15, 16, 0, 17, 18, 19, 20, 0, 21, 22, 23]), .inr (0, 20), .inr (0, 20), .inr (0, 20), .inr (0, 20), .inr (0, 20), .inr (0, 16), .inr (0, 16), .inr (0, 16), .inr (0, 16), .inr (0, 400), .inr (0, 400), .inr (0, 400), .inl (0, [0, 0, 25, 26, 27, 28, 29, 0, 30, 31, 32, 33, 0, 34, 35, 36]), .inr (0, 20), .inr (0, 20), .inr (0, 20), .inr (0, 20), .inr (0, 20), .inr (0, 16), .inr (0, 16), .inr (0, 16), .inr (0, 16), .inr (0, 400), .inr (0, 400), .inr (0, 400), .inl (4, [6, 11, 38, 39, 0, 0, 0]), .inr (1, 10), .inr (1, 20), .inl (7, [24, 41, 42, 0, 0, 0]), .inr (0, 20), .inr (0, 20), .inl (3, [24, 44, 45, 46, 0, 0, 0]), .inr (1, 16), .inr (1, 16), .inr (1, 320), .inl (2, [2, 2, 2, 2, 0])]
def X8_init_y23 : List Kd := [.inl (8, [4, 6, 11, 24, 37, 40, 43, 2, 2, 2, 0]), .inl (5, [5, 0]), .inr (2, 2000), .inl (6, [7, 8, 9, 10, 0, 0, 1]), .inr (1, 27), .inr (0, 401), .inr (0, 401), .inr (1, 401), .inl (0, [0, 0, 12, 13, 14, 15, 16, 0, 17, 18, 19, 20, 0, 21, 22, 23]), .inr (0, 20), .inr (0, 20), .inr (0, 20), .inr (0, 20), .inr (0, 20), .inr (0, 16), .inr (0, 16), .inr (0, 16), .inr (0, 16), .inr (0, 400), .inr (0, 400), .inr (0, 400), .inl (0, [0, 0, 25, 26, 27, 28, 29, 0, 30, 31, 32, 33, 0, 34, 35, 36]), .inr (0, 20), .inr (0, 20), .inr (0, 20), .inr (0, 20), .inr (0, 20), .inr (0, 16), .inr (0, 16), .inr (0, 16), .inr (0, 16), .inr (0, 400), .inr (0, 400), .inr (0, 400), .inl (4, [6, 11, 38, 39, 0, 0, 0]), .inr (1, 10), .inr (1, 20), .inl (7, [24, 41, 42, 0, 0, 0]), .inr (0, 20), .inr (0, 20), .inl (3, [24, 44, 45, 46, 0, 0, 0]), .inr (1, 16), .inr (1, 16), .inr (1, 320), .inl (2, [24, 40, 43, 48, 0]), .inr (0, 400)]
def X8_init_y24 : List Kd := [.inl (8, [4, 6, 11, 24, 37, 40, 43, 47, 2, 2, 0]), .inl (5, [5, 0]), .inr (2, 2000), .inl (6, [7, 8, 9, 10, 0, 0, 1]), .inr (1, 27), .inr (0, 401), .inr (0, 401), .inr (1, 401), .inl (0, [0, 0, 12, 13, 14, 15, 16, 0, 17, 18, 19, 20, 0, 21, 22, 23]), .inr (0, 20), .inr (0, 20), .inr (0, 20), .inr (0, 20), .inr (0, 20), .inr (0, 16), .inr (0, 16), .inr (0, 16), .inr (0, 16), .inr (0, 400), .inr (0, 400), .inr (0, 400), .inl (0, [0, 0, 25, 26, 27, 28, 29, 0, 30, 31, 32, 33, 0, 34, 35, 36]), .inr (0, 20), .inr (0, 20), .inr (0, 20), .inr (0, 20), .inr (0, 20), .inr (0, 16), .inr (0, 16), .inr (0, 16), .inr (0, 16), .inr (0, 400), .inr (0, 400), .inr (0, 400), .inl (4, [6, 11, 38, 39, 0, 0, 0]), .inr (1, 10), .inr (1, 20), .inl (7, [24, 41, 42, 0, 0, 0]), .inr (0, 20), .inr (0, 20), .inl (3, [24, 44, 45, 46, 0, 0, 0]), .inr (1, 16), .inr (1, 16), .inr (1, 320), .inl (2, [24, 40, 43, 48, 0]), .inr (0, 400)]
def X8_init_y25 : List Kd := [.inl (8, [4, 6, 11, 24, 37, 40, 43, 47, 2, 2, 0]), .inl (5, [5, 0]), .inr (2, 2000), .inl (6, [7, 8, 9, 10, 0, 0, 1]), .inr (1, 27), .inr (0, 401), .inr (0, 401), .inr (1, 401), .inl (0, [0, 0, 12, 13, 14, 15, 16, 0, 17, 18, 19, 20, 0, 21, 22, 23]), .inr (0, 20), .inr (0, 20), .inr (0, 20), .inr (0, 20), .inr (0, 20), .inr (0, 16), .inr (0, 16), .inr (0, 16), .inr (0, 16), .inr (0, 400), .inr (0, 400), .inr (0, 400), .inl (0, [0, 0, 25, 26, 27, 28, 29, 0, 30, 31, 32, 33, 0, 34, 35, 36]), .inr (0, 20), .inr (0, 20), .inr (0, 20), .inr (0, 20), .inr (0, 20), .inr (0, 16), .inr (0, 16), .inr (0, 16), .inr (0, 16), .inr (0, 400), .inr (0, 400), .inr (0, 400), .inl (4, [6, 11, 38, 39, 0, 0, 0]), .inr (1, 10), .inr (1, 20), .inl (7, [24, 41, 42, 0, 0, 0]), .inr (0, 20), .inr (0, 20), .inl (3, [24, 44, 45, 46, 0, 0, 0]), .inr (1, 16), .inr (1, 16), .inr (1, 320), .inl (2, [24, 40, 43, 48, 0]), .inr (0, 400), .inl (1, [0, 0, 0])]
def X8_init_y26 : List Kd := [.inl (8, [4, 6, 11, 24, 37, 40, 43, 47, 2, 2, 0]), .inl (5, [5, 0]), .inr (2, 2000), .inl (6, [7, 8, 9, 10, 0, 0, 1]), .inr (1, 27), .inr (0, 401), .inr (0, 401), .inr (1, 401), .inl (0, [0, 0, 12, 13, 14, 15, 16, 0, 17, 18, 19, 20, 0, 21, 22, 23]), .inr (0, 20), .inr (0, 20), .inr (0, 20), .inr (0, 20), .inr (0, 20), .inr (0, 16), .inr (0, 16), .inr (0, 16), .inr (0, 16), .inr (0, 400), .inr (0, 400), .inr (0, 400), .inl (0, [0, 0, 25, 26, 27, 28, 29, 0, 30, 31, 32, 33, 0, 34, 35, 36]), .inr (0, 20), .inr (0, 20), .inr (0, 20), .inr (0, 20), .inr (0, 20), .inr (0, 16), .inr (0, 16), .inr (0, 16), .inr (0, 16), .inr (0, 400), .inr (0, 400), .inr (0, 400), .inl (4, [6, 11, 38, 39, 0, 0, 0]), .inr (1, 10), .inr (1, 20), .inl (7, [24, 41, 42, 0, 0, 0]), .inr (0, 20), .inr (0, 20), .inl (3, [24, 44, 45, 46, 0, 0, 0]), .inr (1, 16), .inr (1, 16), .inr (1, 320), .inl (2, [24, 40, 43, 48, 0]), .inr (0, 400), .inl (1, [0, 0, 0])]
def X8_init_y27 : List Kd := [.inl (8, [4, 6, 11, 24, 37, 40, 43, 47, 49, 2, 0]), .inl (5, [5, 0]), .inr (2, 2000), .inl (6, [7, 8, 9, 10, 0, 0, 1]), .inr (1, 27), .inr (0, 401), .inr (0, 401), .inr (1, 401), .inl (0, [0, 0, 12, 13, 14, 15, 16, 0, 17, 18, 19, 20, 0, 21, 22, 23]), .inr (0, 20), .inr (0, 20), .inr (0, 20), .inr (0, 20), .inr (0, 20), .inr (0, 16), .inr (0, 16), .inr (0, 16), .inr (0, 16), .inr (0, 400), .inr (0, 400), .inr (0, 400), .inl (0, [0, 0, 25, 26, 27, 28, 29, 0, 30, 31, 32, 33, 0, 34, 35, 36]), .inr (0, 20), .inr (0, 20), .inr (0, 20), .inr (0, 20), .inr (0, 20), .inr (0, 16), .inr (0, 16), .inr (0, 16), .inr (0, 16), .inr (0, 400), .inr (0, 400), .inr (0, 400), .inl (4, [6, 11, 38, 39, 0, 0, 0]), .inr (1, 10), .inr (1, 20), .inl (7, [24, 41, 42, 0, 0, 0]), .inr (0, 20), .inr (0, 20), .inl (3, [24, 44, 45, 46, 0, 0, 0]), .inr (1, 16), .inr (1, 16), .inr (1, 320), .inl (2, [24, 40, 43, 48, 0]), .inr (0, 400), .inl (1, [0, 0, 0])]
def X8_init_y28 : List Kd := [.inl (8, [4, 6, 11, 24, 37, 40, 43, 47, 49, 2, 0]), .inl (5, [5, 0]), .inr (2, 2000), .inl (6, [7, 8, 9, 10, 0, 0, 1]), .inr (1, 27), .inr (0, 401), .inr (0, 401), .inr (1, 401), .inl (0, [0, 0, 12, 13, 14, 15, 16, 0, 17, 18, 19, 20, 0, 21, 22, 23]), .inr (0, 20), .inr (0, 20), .inr (0, 20), .inr (0, 20), .inr (0, 20), .inr (0, 16), .inr (0, 16), .inr (0, 16), .inr (0, 16), .inr (0, 400), .inr (0, 400), .inr (0, 400), .inl (0, [0, 0, 25, 26, 27, 28, 29, 0, 30, 31, 32, 33, 0, 34, 35, 36]), .inr (0, 20), .inr (0, 20), .inr (0, 20), .inr (0, 20), .inr (0, 20), .inr (0, 16), .inr (0, 16), .inr (0, 16), .inr (0, 16), .inr (0, 400), .inr (0, 400), .inr (0, 400), .inl (4, [6, 11, 38, 39, 0, 0, 0]), .inr (1, 10), .inr (1, 20), .inl (7, [24, 41, 42, 0, 0, 0]), .inr (0, 20), .inr (0, 20), .inl (3, [24, 44, 45, 46, 0, 0, 0]), .inr (1, 16), .inr (1, 16), .inr (1, 320), .inl (2, [24, 40, 43, 48, 0]), .inr (0, 400), .inl (1, [0, 0, 0]), .inl (1, [0, 0, 0])]
def X8_init_y29 : List Kd := [.inl (8, [4, 6, 11, 24, 37, 40, 43, 47, 49, 2, 0]), .inl (5, [5, 0]), .inr (2, 2000), .inl (6, [7, 8, 9, 10, 0, 0, 1]), .inr (1, 27), .inr (0, 401), .inr (0, 401), .inr (1, 401), .inl (0, [0, 0, 12, 13, 14, 15, 16, 0, 17, 18, 19, 20, 0, 21, 22, 23]), .inr (0, 20), .inr (0, 20), .inr (0, 20), .inr (0, 20), .inr (0, 20), .inr (0, 16), .inr (0, 16), .inr (0, 16), .inr (0, 16), .inr (0, 400), .inr (0, 400), .inr (0, 400), .inl (0, [0, 0, 25, 26, 27, 28, 29, 0, 30, 31, 32, 33, 0, 34, 35, 36]), .inr (0, 20), .inr (0, 20), .inr (0, 20), .inr (0, 20), .inr (0, 20), .inr (0, 16), .inr (0, 16), .inr (0, 16), .inr (0, 16), .inr (0, 400), .inr (0, 400), .inr (0, 400), .inl (4, [6, 11, 38, 39, 0, 0, 0]), .inr (1, 10), .inr (1, 20), .inl (7, [24, 41, 42, 0, 0, 0]), .inr (0, 20), .inr (0, 20), .inl (3, [24, 44, 45, 46, 0, 0, 0]), .inr (1, 16), .inr (1, 16), .inr (1, 320), .inl (2, [24, 40, 43, 48, 0]), .inr (0, 400), .inl (1, [0, 0, 0]), .inl (1, [0, 0, 0])]
def X8_init_y30 : List Kd := [.inl (8, [4, 6, 11, 24, 37, 40, 43, 47, 49, 50, 0]), .inl (5, [5, 0]), .inr (2, 2000), .inl (6, [7, 8, 9, 10, 0, 0, 1]), .inr (1, 27), .inr (0, 401), .inr (0, 401), .inr (1, 401), .inl (0, [0, 0, 12, 13, 14, 15, 16, 0, 17, 18, 19, 20, 0, 21, 22, 23]), .inr (0, 20), .inr (0, 20), .inr (0, 20), .inr (0, 20), .inr (0, 20), .inr (0, 16), .inr (0, 16), .inr (0, 16), .inr (0, 16), .inr (0, 400), .inr (0, 400), .inr (0, 400), .inl (0, [0, 0, 25, 26, 27, 28, 29, 0, 30, 31, 32, 33, 0, 34, 35, 36]), .inr (0, 20), .inr (0, 20), .inr (0, 20), .inr (0, 20), .inr (0, 20), .inr (0, 16), .inr (0, 16), .inr (0, 16), .inr (0, 16), .inr (0, 400), .inr (0, 400), .inr (0, 400), .inl (4, [6, 11, 38, 39, 0, 0, 0]), .inr (1, 10), .inr (1, 20), .inl (7, [24, 41, 42, 0, 0, 0]), .inr (0, 20), .inr (0, 20), .inl (3, [24, 44, 45, 46, 0, 0, 0]), .inr (1, 16), .inr (1, 16), .inr (1, 320), .inl (2, [24, 40, 43, 48, 0]), .inr (0, 400), .inl (1, [0, 0, 0]), .inl (1, [0, 0, 0])]
set_option maxHeartbeats 4000000 in
set_option maxRecDepth 100000 in
theorem c_X8_init {g : Gx} {a : Nat → Nat} {x : XS}  : Mz g yX8_init cX8_init 1 none 7 47 6852 YX8_init_0 a x [.ref (a 0)] (fun v lay' a1 x' => v = none ∧ lay' = X8_init_y30 ∧ x' = i_X8_init x ∧ ∀ j, (j < 1 ∨ 48 ≤ j) → a1 j = a j) := by
  refine Mz_of (by decide +kernel) (Nat.le_of_ble_eq_true rfl) ?_
  intro k hk he hg
  subst hg
  refine xaload_n hk dX8_init_0 rfl ?_
  refine xobjInit hk dX8_init_1 kX8_3 (by first | decide | omega) (Nat.le_of_ble_eq_true rfl) ?_
  refine xaload_n hk dX8_init_4 rfl ?_
  refine xnew (ci := 5) (ft := [2, 0]) hk tyX5 dX8_init_5 kinst5 kini5 tyX5_ok rfl rfl kdX5 kcX8_9 (Nat.le_of_ble_eq_true rfl) (Nat.le_of_ble_eq_true rfl) (by decide +kernel) ?_
  intro a1 ha1
  rw [show YX8_init_0.length = 1 from rfl] at ha1 ⊢
  refine xlay (lay' := X8_init_y1) rfl ?_
  rw [← ha1 0 (by decide)]
  refine xdup hk dX8_init_8 rfl ?_
  refine xlay (lay' := YX5_init_1) rfl ?_
  refine xcallIN (n := 0) hk c_X5_init_1 ⟨gw_mem 41 (by decide +kernel) (by decide +kernel), gw_mem 14 (by decide +kernel) (by decide +kernel), by decide +kernel, by decide⟩ (gw_mem 40 (by decide +kernel) (by decide +kernel)) rfl kX8_11 dX8_init_9 rfl rfl (by first | decide | omega) ⟨Nat.le_of_ble_eq_true rfl, Nat.le_of_ble_eq_true rfl⟩ (Nat.le_of_ble_eq_true rfl) ?_
  rintro _ _ a2 _ ⟨rfl, rfl, rfl, ha2⟩
  refine xlay (lay' := X8_init_y2) rfl ?_
  rw [← ha2 0 (Or.inl (by decide))]
  rw [← ha2 1 (Or.inl (by decide))]
  refine xputF (q := 0) (ci := 8) (f := 0) (j := 1) hk dX8_init_12 rfl (by decide) rfl (by decide) kX8_12 rfl rfl (tyX8_ok 0 (by decide)) (fun _ => ⟨rfl, rfl⟩) ?_
  refine xlay (lay' := X8_init_y3) rfl ?_
  refine xaload_n hk dX8_init_15 rfl ?_
  refine xnew (ci := 6) (ft := [2, 2, 2, 2, 0, 0, 1]) hk tyX6 dX8_init_16 kinst6 kini6 tyX6_ok rfl rfl kdX6 kcX8_16 (Nat.le_of_ble_eq_true rfl) (Nat.le_of_ble_eq_true rfl) (by decide +kernel) ?_
  intro a3 ha3
  rw [show X8_init_y3.length = 3 from rfl] at ha3 ⊢
  refine xlay (lay' := X8_init_y4) rfl ?_
  rw [← ha3 0 (by decide)]
  refine xdup hk dX8_init_19 rfl ?_
  refine xlay (lay' := YX6_init_3) rfl ?_
  refine xcallIN (n := 0) hk c_X6_init_3 ⟨gw_mem 57 (by decide +kernel) (by decide +kernel), gw_mem 15 (by decide +kernel) (by decide +kernel), by decide +kernel, by decide⟩ (gw_mem 56 (by decide +kernel) (by decide +kernel)) rfl kX8_18 dX8_init_20 rfl rfl (by first | decide | omega) ⟨Nat.le_of_ble_eq_true rfl, Nat.le_of_ble_eq_true rfl⟩ (Nat.le_of_ble_eq_true rfl) ?_
  rintro _ _ a4 _ ⟨rfl, rfl, rfl, ha4⟩
  refine xlay (lay' := X8_init_y5) rfl ?_
  rw [← ha4 0 (Or.inl (by decide))]
  rw [← ha4 3 (Or.inl (by decide))]
  refine xputF (q := 0) (ci := 8) (f := 1) (j := 3) hk dX8_init_23 rfl (by decide) rfl (by decide) kX8_19 rfl rfl (tyX8_ok 1 (by decide)) (fun _ => ⟨rfl, rfl⟩) ?_
  refine xlay (lay' := X8_init_y6) rfl ?_
  refine xaload_n hk dX8_init_26 rfl ?_
  refine xnew (ci := 0) (ft := [0, 0, 2, 2, 2, 2, 2, 0, 2, 2, 2, 2, 0, 2, 2, 2]) hk tyX0 dX8_init_27 kinst0 kini0 tyX0_ok rfl rfl kdX0 kcX8_23 (Nat.le_of_ble_eq_true rfl) (Nat.le_of_ble_eq_true rfl) (by decide +kernel) ?_
  intro a5 ha5
  rw [show X8_init_y6.length = 8 from rfl] at ha5 ⊢
  refine xlay (lay' := X8_init_y7) rfl ?_
  rw [← ha5 0 (by decide)]
  refine xdup hk dX8_init_30 rfl ?_
  refine xlay (lay' := YX0_init_8) rfl ?_
  refine xcallIN (n := 0) hk c_X0_init_8 ⟨gw_mem 145 (by decide +kernel) (by decide +kernel), gw_mem 16 (by decide +kernel) (by decide +kernel), by decide +kernel, by decide⟩ (gw_mem 144 (by decide +kernel) (by decide +kernel)) rfl kX8_25 dX8_init_31 rfl rfl (by first | decide | omega) ⟨Nat.le_of_ble_eq_true rfl, Nat.le_of_ble_eq_true rfl⟩ (Nat.le_of_ble_eq_true rfl) ?_
  rintro _ _ a6 _ ⟨rfl, rfl, rfl, ha6⟩
  refine xlay (lay' := X8_init_y8) rfl ?_
  rw [← ha6 0 (Or.inl (by decide))]
  rw [← ha6 8 (Or.inl (by decide))]
  refine xputF (q := 0) (ci := 8) (f := 2) (j := 8) hk dX8_init_34 rfl (by decide) rfl (by decide) kX8_26 rfl rfl (tyX8_ok 2 (by decide)) (fun _ => ⟨rfl, rfl⟩) ?_
  refine xlay (lay' := X8_init_y9) rfl ?_
  refine xaload_n hk dX8_init_37 rfl ?_
  refine xnew (ci := 0) (ft := [0, 0, 2, 2, 2, 2, 2, 0, 2, 2, 2, 2, 0, 2, 2, 2]) hk tyX0 dX8_init_38 kinst0 kini0 tyX0_ok rfl rfl kdX0 kcX8_23 (Nat.le_of_ble_eq_true rfl) (Nat.le_of_ble_eq_true rfl) (by decide +kernel) ?_
  intro a7 ha7
  rw [show X8_init_y9.length = 21 from rfl] at ha7 ⊢
  refine xlay (lay' := X8_init_y10) rfl ?_
  rw [← ha7 0 (by decide)]
  refine xdup hk dX8_init_41 rfl ?_
  refine xlay (lay' := YX0_init_21) rfl ?_
  refine xcallIN (n := 0) hk c_X0_init_21 ⟨gw_mem 145 (by decide +kernel) (by decide +kernel), gw_mem 16 (by decide +kernel) (by decide +kernel), by decide +kernel, by decide⟩ (gw_mem 144 (by decide +kernel) (by decide +kernel)) rfl kX8_25 dX8_init_42 rfl rfl (by first | decide | omega) ⟨Nat.le_of_ble_eq_true rfl, Nat.le_of_ble_eq_true rfl⟩ (Nat.le_of_ble_eq_true rfl) ?_
  rintro _ _ a8 _ ⟨rfl, rfl, rfl, ha8⟩
  refine xlay (lay' := X8_init_y11) rfl ?_
  rw [← ha8 0 (Or.inl (by decide))]
  rw [← ha8 21 (Or.inl (by decide))]
  refine xputF (q := 0) (ci := 8) (f := 3) (j := 21) hk dX8_init_45 rfl (by decide) rfl (by decide) kX8_30 rfl rfl (tyX8_ok 3 (by decide)) (fun _ => ⟨rfl, rfl⟩) ?_
  refine xlay (lay' := X8_init_y12) rfl ?_
  refine xaload_n hk dX8_init_48 rfl ?_
  refine xnew (ci := 4) (ft := [2, 2, 2, 2, 0, 0, 0]) hk tyX4 dX8_init_49 kinst4 kini4 tyX4_ok rfl rfl kdX4 kcX8_33 (Nat.le_of_ble_eq_true rfl) (Nat.le_of_ble_eq_true rfl) (by decide +kernel) ?_
  intro a9 ha9
  rw [show X8_init_y12.length = 34 from rfl] at ha9 ⊢
  refine xlay (lay' := X8_init_y13) rfl ?_
  rw [← ha9 0 (by decide)]
  refine xdup hk dX8_init_52 rfl ?_
  refine xaload_n hk dX8_init_53 rfl ?_
  refine xgetR (ci := 8) (f := 1) hk dX8_init_54 ⟨rfl, by decide, _, rfl, rfl⟩ kX8_19 ?_
  refine xaload_n hk dX8_init_57 rfl ?_
  refine xgetR (ci := 8) (f := 2) hk dX8_init_58 ⟨rfl, by decide, _, rfl, rfl⟩ kX8_26 ?_
  refine xlay (lay' := YX4_init_34) rfl ?_
  refine xcallI (n := 2) hk c_X4_init_34 ⟨gw_mem 212 (by decide +kernel) (by decide +kernel), gw_mem 17 (by decide +kernel) (by decide +kernel), by decide +kernel, by decide⟩ (gw_mem 211 (by decide +kernel) (by decide +kernel)) rfl kX8_35 dX8_init_61 rfl rfl (by first | decide | omega) ⟨Nat.le_of_ble_eq_true rfl, Nat.le_of_ble_eq_true rfl⟩ (Nat.le_of_ble_eq_true rfl) ?_
  rintro _ _ a10 _ ⟨rfl, rfl, rfl, ha10⟩
  refine xlay (lay' := X8_init_y14) rfl ?_
  rw [← ha10 0 (Or.inl (by decide))]
  rw [← ha10 34 (Or.inl (by decide))]
  refine xputF (q := 0) (ci := 8) (f := 4) (j := 34) hk dX8_init_64 rfl (by decide) rfl (by decide) kX8_38 rfl rfl (tyX8_ok 4 (by decide)) (fun _ => ⟨rfl, rfl⟩) ?_
  refine xlay (lay' := X8_init_y15) rfl ?_
  refine xaload_n hk dX8_init_67 rfl ?_
  refine xnew (ci := 7) (ft := [2, 2, 2, 0, 0, 0]) hk tyX7 dX8_init_68 kinst7 kini7 tyX7_ok rfl rfl kdX7 kcX8_42 (Nat.le_of_ble_eq_true rfl) (Nat.le_of_ble_eq_true rfl) (by decide +kernel) ?_
  intro a11 ha11
  rw [show X8_init_y15.length = 37 from rfl] at ha11 ⊢
  refine xlay (lay' := X8_init_y16) rfl ?_
  rw [← ha11 0 (by decide)]
  refine xdup hk dX8_init_71 rfl ?_
  refine xaload_n hk dX8_init_72 rfl ?_
  refine xgetR (ci := 8) (f := 3) hk dX8_init_73 ⟨rfl, by decide, _, rfl, rfl⟩ kX8_30 ?_
  refine xlay (lay' := YX7_init_37) rfl ?_
  refine xcallI (n := 1) hk c_X7_init_37 ⟨gw_mem 240 (by decide +kernel) (by decide +kernel), gw_mem 18 (by decide +kernel) (by decide +kernel), by decide +kernel, by decide⟩ (gw_mem 239 (by decide +kernel) (by decide +kernel)) rfl kX8_44 dX8_init_76 rfl rfl (by first | decide | omega) ⟨Nat.le_of_ble_eq_true rfl, Nat.le_of_ble_eq_true rfl⟩ (Nat.le_of_ble_eq_true rfl) ?_
  rintro _ _ a12 _ ⟨rfl, rfl, rfl, ha12⟩
  refine xlay (lay' := X8_init_y17) rfl ?_
  rw [← ha12 0 (Or.inl (by decide))]
  rw [← ha12 37 (Or.inl (by decide))]
  refine xputF (q := 0) (ci := 8) (f := 5) (j := 37) hk dX8_init_79 rfl (by decide) rfl (by decide) kX8_47 rfl rfl (tyX8_ok 5 (by decide)) (fun _ => ⟨rfl, rfl⟩) ?_
  refine xlay (lay' := X8_init_y18) rfl ?_
  refine xaload_n hk dX8_init_82 rfl ?_
  refine xnew (ci := 3) (ft := [2, 2, 2, 2, 0, 0, 0]) hk tyX3 dX8_init_83 kinst3 kini3 tyX3_ok rfl rfl kdX3 kcX8_51 (Nat.le_of_ble_eq_true rfl) (Nat.le_of_ble_eq_true rfl) (by decide +kernel) ?_
  intro a13 ha13
  rw [show X8_init_y18.length = 40 from rfl] at ha13 ⊢
  refine xlay (lay' := X8_init_y19) rfl ?_
  rw [← ha13 0 (by decide)]
  refine xdup hk dX8_init_86 rfl ?_
  refine xaload_n hk dX8_init_87 rfl ?_
  refine xgetR (ci := 8) (f := 3) hk dX8_init_88 ⟨rfl, by decide, _, rfl, rfl⟩ kX8_30 ?_
  refine xlay (lay' := YX3_init_40) rfl ?_
  refine xcallI (n := 1) hk c_X3_init_40 ⟨gw_mem 265 (by decide +kernel) (by decide +kernel), gw_mem 19 (by decide +kernel) (by decide +kernel), by decide +kernel, by decide⟩ (gw_mem 264 (by decide +kernel) (by decide +kernel)) rfl kX8_53 dX8_init_91 rfl rfl (by first | decide | omega) ⟨Nat.le_of_ble_eq_true rfl, Nat.le_of_ble_eq_true rfl⟩ (Nat.le_of_ble_eq_true rfl) ?_
  rintro _ _ a14 _ ⟨rfl, rfl, rfl, ha14⟩
  refine xlay (lay' := X8_init_y20) rfl ?_
  rw [← ha14 0 (Or.inl (by decide))]
  rw [← ha14 40 (Or.inl (by decide))]
  refine xputF (q := 0) (ci := 8) (f := 6) (j := 40) hk dX8_init_94 rfl (by decide) rfl (by decide) kX8_54 rfl rfl (tyX8_ok 6 (by decide)) (fun _ => ⟨rfl, rfl⟩) ?_
  refine xlay (lay' := X8_init_y21) rfl ?_
  refine xaload_n hk dX8_init_97 rfl ?_
  refine xnew (ci := 2) (ft := [2, 2, 2, 2, 0]) hk tyX2 dX8_init_98 kinst2 kini2 tyX2_ok rfl rfl kdX2 kcX8_58 (Nat.le_of_ble_eq_true rfl) (Nat.le_of_ble_eq_true rfl) (by decide +kernel) ?_
  intro a15 ha15
  rw [show X8_init_y21.length = 44 from rfl] at ha15 ⊢
  refine xlay (lay' := X8_init_y22) rfl ?_
  rw [← ha15 0 (by decide)]
  refine xdup hk dX8_init_101 rfl ?_
  refine xaload_n hk dX8_init_102 rfl ?_
  refine xgetR (ci := 8) (f := 3) hk dX8_init_103 ⟨rfl, by decide, _, rfl, rfl⟩ kX8_30 ?_
  refine xaload_n hk dX8_init_106 rfl ?_
  refine xgetR (ci := 8) (f := 5) hk dX8_init_107 ⟨rfl, by decide, _, rfl, rfl⟩ kX8_47 ?_
  refine xaload_n hk dX8_init_110 rfl ?_
  refine xgetR (ci := 8) (f := 6) hk dX8_init_111 ⟨rfl, by decide, _, rfl, rfl⟩ kX8_54 ?_
  refine xlay (lay' := YX2_init_44) rfl ?_
  refine xcallI (n := 3) hk c_X2_init_44 ⟨gw_mem 293 (by decide +kernel) (by decide +kernel), gw_mem 20 (by decide +kernel) (by decide +kernel), by decide +kernel, by decide⟩ (gw_mem 292 (by decide +kernel) (by decide +kernel)) rfl kX8_60 dX8_init_114 rfl rfl (by first | decide | omega) ⟨Nat.le_of_ble_eq_true rfl, Nat.le_of_ble_eq_true rfl⟩ (Nat.le_of_ble_eq_true rfl) ?_
  rintro _ _ a16 _ ⟨rfl, rfl, rfl, ha16⟩
  refine xlay (lay' := X8_init_y23) rfl ?_
  rw [← ha16 0 (Or.inl (by decide))]
  rw [← ha16 44 (Or.inl (by decide))]
  refine xputF (q := 0) (ci := 8) (f := 7) (j := 44) hk dX8_init_117 rfl (by decide) rfl (by decide) kX8_63 rfl rfl (tyX8_ok 7 (by decide)) (fun _ => ⟨rfl, rfl⟩) ?_
  refine xlay (lay' := X8_init_y24) rfl ?_
  refine xaload_n hk dX8_init_120 rfl ?_
  refine xnew (ci := 1) (ft := [0, 0, 0]) hk tyX1 dX8_init_121 kinst1 kini1 tyX1_ok rfl rfl kdX1 kcX8_67 (Nat.le_of_ble_eq_true rfl) (Nat.le_of_ble_eq_true rfl) (by decide +kernel) ?_
  intro a17 ha17
  rw [show X8_init_y24.length = 46 from rfl] at ha17 ⊢
  refine xlay (lay' := X8_init_y25) rfl ?_
  rw [← ha17 0 (by decide)]
  refine xdup hk dX8_init_124 rfl ?_
  refine xlay (lay' := YX1_init_46) rfl ?_
  refine xcallIN (n := 0) hk c_X1_init_46 ⟨gw_mem 315 (by decide +kernel) (by decide +kernel), gw_mem 21 (by decide +kernel) (by decide +kernel), by decide +kernel, by decide⟩ (gw_mem 314 (by decide +kernel) (by decide +kernel)) rfl kX8_69 dX8_init_125 rfl rfl (by first | decide | omega) ⟨Nat.le_of_ble_eq_true rfl, Nat.le_of_ble_eq_true rfl⟩ (Nat.le_of_ble_eq_true rfl) ?_
  rintro _ _ a18 _ ⟨rfl, rfl, rfl, ha18⟩
  refine xlay (lay' := X8_init_y26) rfl ?_
  rw [← ha18 0 (Or.inl (by decide))]
  rw [← ha18 46 (Or.inl (by decide))]
  refine xputF (q := 0) (ci := 8) (f := 8) (j := 46) hk dX8_init_128 rfl (by decide) rfl (by decide) kX8_70 rfl rfl (tyX8_ok 8 (by decide)) (fun _ => ⟨rfl, rfl⟩) ?_
  refine xlay (lay' := X8_init_y27) rfl ?_
  refine xaload_n hk dX8_init_131 rfl ?_
  refine xnew (ci := 1) (ft := [0, 0, 0]) hk tyX1 dX8_init_132 kinst1 kini1 tyX1_ok rfl rfl kdX1 kcX8_67 (Nat.le_of_ble_eq_true rfl) (Nat.le_of_ble_eq_true rfl) (by decide +kernel) ?_
  intro a19 ha19
  rw [show X8_init_y27.length = 47 from rfl] at ha19 ⊢
  refine xlay (lay' := X8_init_y28) rfl ?_
  rw [← ha19 0 (by decide)]
  refine xdup hk dX8_init_135 rfl ?_
  refine xlay (lay' := YX1_init_47) rfl ?_
  refine xcallIN (n := 0) hk c_X1_init_47 ⟨gw_mem 315 (by decide +kernel) (by decide +kernel), gw_mem 21 (by decide +kernel) (by decide +kernel), by decide +kernel, by decide⟩ (gw_mem 314 (by decide +kernel) (by decide +kernel)) rfl kX8_69 dX8_init_136 rfl rfl (by first | decide | omega) ⟨Nat.le_of_ble_eq_true rfl, Nat.le_of_ble_eq_true rfl⟩ (Nat.le_of_ble_eq_true rfl) ?_
  rintro _ _ a20 _ ⟨rfl, rfl, rfl, ha20⟩
  refine xlay (lay' := X8_init_y29) rfl ?_
  rw [← ha20 0 (Or.inl (by decide))]
  rw [← ha20 47 (Or.inl (by decide))]
  refine xputF (q := 0) (ci := 8) (f := 9) (j := 47) hk dX8_init_139 rfl (by decide) rfl (by decide) kX8_74 rfl rfl (tyX8_ok 9 (by decide)) (fun _ => ⟨rfl, rfl⟩) ?_
  refine xlay (lay' := X8_init_y30) rfl ?_
  refine xaload_n hk dX8_init_142 rfl ?_
  refine xiconst (v := (-1)) hk dX8_init_143 (by decide) ?_
  refine xputI (ci := 8) (f := 10) hk dX8_init_144 ⟨rfl, by decide, _, rfl, rfl⟩ kX8_77 ⟨rfl, by decide +kernel⟩ ?_
  refine xvretZ hk he dX8_init_147 ⟨Nat.le_of_ble_eq_true rfl, Nat.le_of_ble_eq_true rfl⟩ ?_
  exact ⟨rfl, rfl, rfl, fun j hj => ((ha20 j (by omega)).trans ((ha19 j (by omega)).trans ((ha18 j (by omega)).trans ((ha17 j (by omega)).trans ((ha16 j (by omega)).trans ((ha15 j (by omega)).trans ((ha14 j (by omega)).trans ((ha13 j (by omega)).trans ((ha12 j (by omega)).trans ((ha11 j (by omega)).trans ((ha10 j (by omega)).trans ((ha9 j (by omega)).trans ((ha8 j (by omega)).trans ((ha7 j (by omega)).trans ((ha6 j (by omega)).trans ((ha5 j (by omega)).trans ((ha4 j (by omega)).trans ((ha3 j (by omega)).trans ((ha2 j (by omega)).trans (ha1 j (by omega)))))))))))))))))))))⟩

