
def isInB (v lo hi : Int32) : Bool := if v < lo then false else if hi < v then false else true
def mhasB (b w : Int32) : Bool := if ((b >>> (w &&& 31)) &&& 1) = 1 then true else false
def mholdsB (r c : Int32) : Bool := decide (mhasB r (c / 2) = decide (c - c / 2 * 2 = 0))
def oneF (x : XS) (q : Nat) (k : Int32) : Int32 := if x.1 (q + 1) k.toNatClampNeg = 1 then x.1 (q + 2) k.toNatClampNeg ^^^ 1 else if x.1 (q + 1) k.toNatClampNeg = 7 then x.1 (q + 2) k.toNatClampNeg ^^^ 1 else x.1 (q + 2) k.toNatClampNeg
def otherF (x : XS) (q : Nat) (k : Int32) : Int32 := if x.1 (q + 1) k.toNatClampNeg = 7 then x.1 (q + 3) k.toNatClampNeg ^^^ 1 else x.1 (q + 3) k.toNatClampNeg

set_option maxHeartbeats 4000000 in
set_option maxRecDepth 100000 in
theorem c_X10_has {g : Gx} {a : Nat → Nat} {x : XS} {lay : List Kd} {b w : Int32} : Mx g yX10_has cX10_has 2 (some .boolean) 1 0 0 lay a x [.int b, .int w] (pr (some (.int (b2i (mhasB b w)))) x) := by
  refine Mx_of (by decide +kernel) (Nat.le_of_ble_eq_true rfl) ?_
  intro k hk he hg
  subst hg

  refine xiload_n hk dX10_has_0 rfl ?_
  refine xiload_n hk dX10_has_1 rfl ?_
  refine xishr hk dX10_has_2 ?_
  refine xiconst (v := 1) hk dX10_has_3 (by decide) ?_
  refine xiand hk dX10_has_4 ?_
  refine xiconst (v := 1) hk dX10_has_5 (by decide) ?_
  refine xicmp_ne hk 13 dX10_has_6 (by decide) (fun h6 => ?_) (fun h6 => ?_)
  · refine xiconst (v := 0) hk dX10_has_13 (by decide) ?_
    refine xzret hk he dX10_has_14 ⟨by decide, by decide⟩ (by first | with_reducible exact nar_b _ | rfl) ?_
    exact ⟨by simp [mhasB, b2i, *], rfl⟩
  · refine xiconst (v := 1) hk dX10_has_9 (by decide) ?_
    refine xgoto hk 14 dX10_has_10 (by decide) ?_
    refine xzret hk he dX10_has_14 ⟨by decide, by decide⟩ (by first | with_reducible exact nar_b _ | rfl) ?_
    exact ⟨by simp [mhasB, b2i, *], rfl⟩
set_option maxHeartbeats 4000000 in
set_option maxRecDepth 100000 in
theorem c_X10_isIn {g : Gx} {a : Nat → Nat} {x : XS} {lay : List Kd} {v lo hi : Int32} : Mx g yX10_isIn cX10_isIn 3 (some .boolean) 1 0 0 lay a x [.int v, .int lo, .int hi] (pr (some (.int (b2i (isInB v lo hi)))) x) := by
  refine Mx_of (by decide +kernel) (Nat.le_of_ble_eq_true rfl) ?_
  intro k hk he hg
  subst hg

  refine xiload_n hk dX10_isIn_0 rfl ?_
  refine xiload_n hk dX10_isIn_1 rfl ?_
  refine xicmp_lt hk 14 dX10_isIn_2 (by decide) (fun h2 => ?_) (fun h2 => ?_)
  · refine xiconst (v := 0) hk dX10_isIn_14 (by decide) ?_
    refine xzret hk he dX10_isIn_15 ⟨by decide, by decide⟩ (by first | with_reducible exact nar_b _ | rfl) ?_
    exact ⟨by simp [isInB, b2i, *], rfl⟩
  · refine xiload_n hk dX10_isIn_5 rfl ?_
    refine xiload_n hk dX10_isIn_6 rfl ?_
    refine xicmp_gt hk 14 dX10_isIn_7 (by decide) (fun h7 => ?_) (fun h7 => ?_)
    · refine xiconst (v := 0) hk dX10_isIn_14 (by decide) ?_
      refine xzret hk he dX10_isIn_15 ⟨by decide, by decide⟩ (by first | with_reducible exact nar_b _ | rfl) ?_
      exact ⟨by simp [isInB, b2i, *], rfl⟩
    · refine xiconst (v := 1) hk dX10_isIn_10 (by decide) ?_
      refine xgoto hk 15 dX10_isIn_11 (by decide) ?_
      refine xzret hk he dX10_isIn_15 ⟨by decide, by decide⟩ (by first | with_reducible exact nar_b _ | rfl) ?_
      exact ⟨by simp [isInB, b2i, *], rfl⟩
