
def hasB (s n : Int32) : Bool := decide (¬ ((s >>> (n &&& 31)) &&& 1) = 0)
def withI (s n : Int32) : Int32 := s ||| ((1 : Int32) <<< (n &&& 31))
def withoutI (s n : Int32) : Int32 := s &&& (((1 : Int32) <<< (n &&& 31)) ^^^ (-1))
/-- the first number from i on, of n more, that is in a set; -1 if none is -/
def lowF (s : Int32) : Nat → Int32 → Int32
  | 0, _ => -1
  | n + 1, i => if hasB s i then i else lowF s n (i + 1)
def lowI (s : Int32) : Int32 := lowF s 32 0

set_option maxHeartbeats 4000000 in
set_option maxRecDepth 100000 in
theorem c_X8_has {g : Gx} {a : Nat → Nat} {x : XS} {lay : List Kd} {s n : Int32} : Mx g yX8_has cX8_has 2 (some .boolean) 1 0 0 lay a x [.int s, .int n] (pr (some (.int (b2i (hasB s n)))) x) := by
  refine Mx_of (by decide +kernel) (Nat.le_of_ble_eq_true rfl) ?_
  intro k hk he hg
  subst hg

  refine xiload_n hk dX8_has_0 rfl ?_
  refine xiload_n hk dX8_has_1 rfl ?_
  refine xishr hk dX8_has_2 ?_
  refine xiconst (v := 1) hk dX8_has_3 (by decide) ?_
  refine xiand hk dX8_has_4 ?_
  refine xif_eq hk 12 dX8_has_5 (by decide) (fun h5 => ?_) (fun h5 => ?_)
  · refine xiconst (v := 0) hk dX8_has_12 (by decide) ?_
    refine xzret hk he dX8_has_13 ⟨by decide, by decide⟩ rfl ?_
    exact ⟨by simp [hasB, b2i, h5], rfl⟩
  · refine xiconst (v := 1) hk dX8_has_8 (by decide) ?_
    refine xgoto hk 13 dX8_has_9 (by decide) ?_
    refine xzret hk he dX8_has_13 ⟨by decide, by decide⟩ rfl ?_
    exact ⟨by simp [hasB, b2i, h5], rfl⟩
set_option maxHeartbeats 4000000 in
set_option maxRecDepth 100000 in
theorem c_X8_with {g : Gx} {a : Nat → Nat} {x : XS} {lay : List Kd} {s n : Int32} : Mx g yX8_with cX8_with 2 (some .int) 1 0 0 lay a x [.int s, .int n] (pr (some (.int (withI s n))) x) := by
  refine Mx_of (by decide +kernel) (Nat.le_of_ble_eq_true rfl) ?_
  intro k hk he hg
  subst hg

  refine xiload_n hk dX8_with_0 rfl ?_
  refine xiconst (v := 1) hk dX8_with_1 (by decide) ?_
  refine xiload_n hk dX8_with_2 rfl ?_
  refine xishl hk dX8_with_3 ?_
  refine xior hk dX8_with_4 ?_
  refine xiret hk he dX8_with_5 ⟨by decide, by decide⟩ ?_
  exact ⟨rfl, rfl⟩
set_option maxHeartbeats 4000000 in
set_option maxRecDepth 100000 in
theorem c_X8_without {g : Gx} {a : Nat → Nat} {x : XS} {lay : List Kd} {s n : Int32} : Mx g yX8_without cX8_without 2 (some .int) 1 0 0 lay a x [.int s, .int n] (pr (some (.int (withoutI s n))) x) := by
  refine Mx_of (by decide +kernel) (Nat.le_of_ble_eq_true rfl) ?_
  intro k hk he hg
  subst hg

  refine xiload_n hk dX8_without_0 rfl ?_
  refine xiconst (v := 1) hk dX8_without_1 (by decide) ?_
  refine xiload_n hk dX8_without_2 rfl ?_
  refine xishl hk dX8_without_3 ?_
  refine xiconst (v := (-1)) hk dX8_without_4 (by decide) ?_
  refine xixor hk dX8_without_5 ?_
  refine xiand hk dX8_without_6 ?_
  refine xiret hk he dX8_without_7 ⟨by decide, by decide⟩ ?_
  exact ⟨rfl, rfl⟩
set_option maxHeartbeats 4000000 in
set_option maxRecDepth 100000 in
theorem c_X8_lowest {g : Gx} {a : Nat → Nat} {x : XS} {lay : List Kd} {s : Int32} : Mx g yX8_lowest cX8_lowest 2 (some .int) 2 0 0 lay a x [.int s] (pr (some (.int (lowI s))) x) := by
  refine Mx_of (by decide +kernel) (Nat.le_of_ble_eq_true rfl) ?_
  intro k hk he hg
  subst hg

