theorem kX8_149 : Cond.methodLink RX8 149 yX8_has ∈ GW := gw_mem 494 (by decide +kernel) (by decide +kernel)
theorem bX8_has : CBs yX8_has cX8_has 2 (some .boolean) 2 := ⟨⟨gw_mem 496 (by decide +kernel) (by decide +kernel), gw_mem 13 (by decide +kernel) (by decide +kernel), by decide +kernel, by decide⟩, gw_mem 495 (by decide +kernel) (by decide +kernel)⟩
theorem b2i_t (b : Bool) : ¬ b2i b = 0 ↔ b = true := by cases b <;> simp [b2i]
/-- a step over and over, from 0 on -/
def itP {α : Type} (f : Nat → α → α) : Nat → α → α
  | 0, x => x
  | j + 1, x => f j (itP f j x)
theorem rdI (x : XS) (q k q' k' : Nat) (v : Int32) : (setI x q k v).1 q' k' = if q' = q ∧ k' = k then v else x.1 q' k' := rfl
theorem nI_inc (j : Nat) : nI j + Int32.ofInt 1 = nI (j + 1) := nI_1 j
def hasB (s n : Int32) : Bool := decide (¬ ((s >>> (n &&& 31)) &&& 1) = 0)
def withI (s n : Int32) : Int32 := s ||| ((1 : Int32) <<< (n &&& 31))
def withoutI (s n : Int32) : Int32 := s &&& (((1 : Int32) <<< (n &&& 31)) ^^^ (-1))
/-- the first number from i on, of n more, that is in a set; -1 if none is -/
def lowF (s : Int32) : Nat → Int32 → Int32
  | 0, _ => -1
  | n + 1, i => if hasB s i then i else lowF s n (i + 1)
def lowI (s : Int32) : Int32 := lowF s 32 0

set_option maxHeartbeats 4000000 in
set_option maxRecDepth 100000 in
theorem c_X8_has {g : Gx} {a : Nat → Nat} {x : XS} {lay : List Kd} {s n : Int32} : Mx g yX8_has cX8_has 2 (some .boolean) 1 0 0 lay a x [.int s, .int n] (pr (some (.int (b2i (hasB s n)))) x) := by
  refine Mx_of (by decide +kernel) (Nat.le_of_ble_eq_true rfl) ?_
  intro k hk he hg
  subst hg

  refine xiload_n hk dX8_has_0 rfl ?_
  refine xiload_n hk dX8_has_1 rfl ?_
  refine xishr hk dX8_has_2 ?_
  refine xiconst (v := 1) hk dX8_has_3 (by decide) ?_
  refine xiand hk dX8_has_4 ?_
  refine xif_eq hk 12 dX8_has_5 (by decide) (fun h5 => ?_) (fun h5 => ?_)
  · refine xiconst (v := 0) hk dX8_has_12 (by decide) ?_
    refine xzret hk he dX8_has_13 ⟨by decide, by decide⟩ (by first | with_reducible exact nar_b _ | rfl) ?_
    exact ⟨by simp [hasB, b2i, h5], rfl⟩
  · refine xiconst (v := 1) hk dX8_has_8 (by decide) ?_
    refine xgoto hk 13 dX8_has_9 (by decide) ?_
    refine xzret hk he dX8_has_13 ⟨by decide, by decide⟩ (by first | with_reducible exact nar_b _ | rfl) ?_
    exact ⟨by simp [hasB, b2i, h5], rfl⟩
set_option maxHeartbeats 4000000 in
set_option maxRecDepth 100000 in
theorem c_X8_with {g : Gx} {a : Nat → Nat} {x : XS} {lay : List Kd} {s n : Int32} : Mx g yX8_with cX8_with 2 (some .int) 1 0 0 lay a x [.int s, .int n] (pr (some (.int (withI s n))) x) := by
  refine Mx_of (by decide +kernel) (Nat.le_of_ble_eq_true rfl) ?_
  intro k hk he hg
  subst hg

  refine xiload_n hk dX8_with_0 rfl ?_
  refine xiconst (v := 1) hk dX8_with_1 (by decide) ?_
  refine xiload_n hk dX8_with_2 rfl ?_
  refine xishl hk dX8_with_3 ?_
  refine xior hk dX8_with_4 ?_
  refine xiret hk he dX8_with_5 ⟨by decide, by decide⟩ ?_
  exact ⟨rfl, rfl⟩
set_option maxHeartbeats 4000000 in
set_option maxRecDepth 100000 in
theorem c_X8_without {g : Gx} {a : Nat → Nat} {x : XS} {lay : List Kd} {s n : Int32} : Mx g yX8_without cX8_without 2 (some .int) 1 0 0 lay a x [.int s, .int n] (pr (some (.int (withoutI s n))) x) := by
  refine Mx_of (by decide +kernel) (Nat.le_of_ble_eq_true rfl) ?_
  intro k hk he hg
  subst hg

  refine xiload_n hk dX8_without_0 rfl ?_
  refine xiconst (v := 1) hk dX8_without_1 (by decide) ?_
  refine xiload_n hk dX8_without_2 rfl ?_
  refine xishl hk dX8_without_3 ?_
  refine xiconst (v := (-1)) hk dX8_without_4 (by decide) ?_
  refine xixor hk dX8_without_5 ?_
  refine xiand hk dX8_without_6 ?_
  refine xiret hk he dX8_without_7 ⟨by decide, by decide⟩ ?_
  exact ⟨rfl, rfl⟩
set_option maxHeartbeats 4000000 in
set_option maxRecDepth 100000 in
theorem c_X8_lowest {g : Gx} {a : Nat → Nat} {x : XS} {lay : List Kd} {s : Int32} : Mx g yX8_lowest cX8_lowest 2 (some .int) 2 0 0 lay a x [.int s] (pr (some (.int (lowI s))) x) := by
  refine Mx_of (by decide +kernel) (Nat.le_of_ble_eq_true rfl) ?_
  intro k hk he hg
  subst hg

  have loop : ∀ (n r j : Nat) (v : Int32), r < n → v = nI j → r + j = 32 → lowF s r (nI j) = lowI s → Wx k 0 0 lay a x 2 [(0, .int s), (1, .int v)] [] := by
    intro n
    induction n with
    | zero => intro r j v h; omega
    | succ n ih =>
      intro r j v hn hv hj hI
      refine xiload_n hk dX8_lowest_2 rfl ?_
      refine xbipush (v := 32) hk dX8_lowest_3 (by decide) ?_
      refine xicmp_ge hk 24 dX8_lowest_5 (by decide) (fun h5 => ?_) (fun h5 => ?_)
      · rw [hv, show (32 : Int32) = nI 32 from rfl, nI_leI (by decide) (by omega)] at h5
        obtain rfl : r = 0 := by omega
        refine xiconst (v := (-1)) hk dX8_lowest_24 (by decide) ?_
        refine xiret hk he dX8_lowest_25 ⟨by decide, by decide⟩ ?_
        exact ⟨by rw [← hI]; rfl, rfl⟩
      · rw [hv, show (32 : Int32) = nI 32 from rfl, nI_leI (by decide) (by omega)] at h5
        obtain ⟨r, rfl⟩ : ∃ r2, r = r2 + 1 := ⟨r - 1, by omega⟩
        refine xiload_n hk dX8_lowest_8 rfl ?_
        refine xiload_n hk dX8_lowest_9 rfl ?_
        refine xcallS hk c_X8_has bX8_has kX8_149 dX8_lowest_10 rfl rfl (by decide) ⟨by decide, by decide⟩ (Nat.le_of_ble_eq_true rfl) (det ?_)
        refine xif_eq hk 18 dX8_lowest_13 (by decide) (fun h13 => ?_) (fun h13 => ?_)
        · rw [b2i_0] at h13
          rw [hv] at h13
          rw [lowF, h13, if_neg Bool.false_ne_true, nI_1] at hI
          refine xiinc hk dX8_lowest_18 rfl (by decide) rfl ?_
          refine xgoto hk 2 dX8_lowest_21 (by decide) ?_
          exact ih r (j + 1) _ (by omega) (by rw [hv]; exact nI_inc j) (by omega) hI
        · rw [b2i_t] at h13
          rw [hv] at h13
          rw [lowF, h13, if_pos rfl] at hI
          refine xiload_n hk dX8_lowest_16 rfl ?_
          refine xiret hk he dX8_lowest_17 ⟨by decide, by decide⟩ ?_
          exact ⟨by rw [← hI, hv], rfl⟩
  refine xiconst (v := 0) hk dX8_lowest_0 (by decide) ?_
  refine xistore_n hk dX8_lowest_1 (by decide) ?_
  exact loop 33 32 0 _ (by omega) rfl (by omega) rfl
