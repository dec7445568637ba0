
/-! Peaces told by hand -/
theorem app_o {lay l : List Kd} {i : Nat} {kd : Kd} (h : lay[i]? = some kd) : (lay ++ l)[i]? = some kd := by rw [List.getElem?_append_left (List.getElem?_eq_some_iff.mp h).1]; exact h
theorem app_n {lay : List Kd} {kd : Kd} : (lay ++ [kd])[lay.length]? = some kd := by rw [List.getElem?_append_right (Nat.le_refl _), Nat.sub_self]; rfl
theorem SimL.app {lay l : List Kd} {q : Nat} {b : Bok} (h : SimL lay q b) : SimL (lay ++ l) q b := ⟨app_o h.1, app_o h.2.1, app_o h.2.2.1, fun k hk => app_o (h.2.2.2.1 k hk), fun k hk => app_o (h.2.2.2.2 k hk)⟩
theorem at_lt {lay : List Kd} {i : Nat} {kd : Kd} (h : lay[i]? = some kd) : i < lay.length := (List.getElem?_eq_some_iff.mp h).1
theorem SimL.lt {lay : List Kd} {q : Nat} {b : Bok} (h : SimL lay q b) : q + 3 + bS b + bM b ≤ lay.length := by
  have h2 := at_lt h.2.2.1
  by_cases hM : bM b = 0
  · by_cases hS : bS b = 0
    · omega
    · have := at_lt (h.2.2.2.1 (bS b - 1) (by omega)); omega
  · have := at_lt (h.2.2.2.2 (bM b - 1) (by omega)); omega
theorem clr_ne {x : XS} {n i : Nat} (h : i ≠ n) (j : Nat) : (clr x n).1 i j = x.1 i j ∧ (clr x n).2 i j = x.2 i j := by simp [clr, h]
theorem clr_eq {x : XS} {n : Nat} (j : Nat) : (clr x n).1 n j = 0 ∧ (clr x n).2 n j = 0 := by simp [clr]
def Pm (b : Bok) (m : Nat) : Nat → Bool := PA (bl b) (br b) (nI m) (bS b)
theorem Wn_0 (b : Bok) (m : Nat) : Wn b m 0 0 = Pm b m := by funext t; unfold Wn Pm; rw [show agr 0 0 t = true from rfl, Bool.and_true]
/-- what stays behind a call that makes cells -/
def Keep (lay : List Kd) (a a' : Nat → Nat) (x x' : XS) (Q : Nat → Prop) : Prop := (∀ j, j < lay.length → a' j = a j) ∧ ∀ i, i < lay.length → ¬ Q i → ∀ j, x'.1 i j = x.1 i j ∧ x'.2 i j = x.2 i j
def PcE (lay : List Kd) (a : Nat → Nat) (x : XS) (b : Bok) (m qt : Nat) : Option Value → List Kd → (Nat → Nat) → XS → Prop := fun v lay' a' x' =>
  v = some (.ref (a' lay.length)) ∧ lay' = lay ++ [.inr (0, 2 + 2 * bF b)] ∧ Keep lay a a' x x' (fun i => i = qt) ∧ (∀ j, j < 2 + 2 * bF b → x'.1 lay.length j = nI (cN (Pm b m) (bF b) j)) ∧ (cN (Pm b m) (bF b) 0 ≠ 0 → ∃ t, Best (Pm b m) (2 ^ bF b) t ∧ ∀ f, f < bF b → x'.1 qt f = b2i (!t.testBit f))
set_option maxHeartbeats 4000000 in
set_option maxRecDepth 100000 in
theorem c_X9_peaces {g : Gx} {a : Nat → Nat} {x : XS} {lay : List Kd} {q : Nat} {b : Bok} {m dy ca : Nat} {qt : Nat} (hL : SimL lay q b) (hW : BW b) (hX : SimX x q b m dy ca) (hm : m < 2 ^ 32) (hC : Cl lay) (ht : lay[qt]? = some (.inr (0, bF b))) (apt : qt < q ∨ q + 3 + bS b + bM b ≤ qt) : Mz g yX9_peaces cX9_peaces 3 (some (.array .int)) 9 2 17 lay a x [.ref (a q), .ref (a qt)] (PcE lay a x b m qt) := by
  refine Mz_of (by decide +kernel) (Nat.le_of_ble_eq_true rfl) ?_
  intro k hk he hg
  subst hg

  have hF := hW.1
  have hlt := hL.lt
  have hqt := at_lt ht
  have e1 : (2 : Int32) + 2 * nI (bF b) = nI (2 + 2 * bF b) := by rw [two_nI, show (2 : Int32) = nI 2 from rfl, nI_add]
  have n1 := nI_pos (n := 2 + 2 * bF b) (by omega)
  have n2 := nI_clamp (n := 2 + 2 * bF b) (by omega)
  have n3 := nI_pos (n := bF b) (by omega)
  have n4 := nI_clamp (n := bF b) (by omega)
  refine xiconst (v := 2) hk dX9_peaces_0 (by decide) ?_
  refine xiconst (v := 2) hk dX9_peaces_1 (by decide) ?_
  refine xaload_n hk dX9_peaces_2 rfl ?_
  refine xgetI (ci := 9) (f := 0) hk dX9_peaces_3 ⟨rfl, by decide, _, hL.1, rfl⟩ kX9_19 ?_
  rw [hX.1.1]
  refine ximul hk dX9_peaces_6 ?_
  refine xiadd hk dX9_peaces_7 ?_
  rw [e1]
  refine xnewI (N := 2 + 2 * bF b) hk dX9_peaces_8 n1 n2 (Nat.le_trans (Nat.mul_le_mul_right _ (show 2 + 2 * bF b ≤ 100 by omega)) (by decide)) (by omega) (by omega) (okR_new hC) (fun a1 h1 => ?_)
  rw [← h1 q (by omega)]
  rw [← h1 qt (by omega)]
  have hL1 : SimL (lay ++ [.inr (0, 2 + 2 * bF b)]) q b := hL.app
  refine xastore_n hk dX9_peaces_10 (by decide) ?_
  refine xaload_n hk dX9_peaces_11 rfl ?_
  refine xaload_n hk dX9_peaces_12 rfl ?_
  refine xgetI (ci := 9) (f := 0) hk dX9_peaces_13 ⟨rfl, by decide, _, hL1.1, rfl⟩ kX9_19 ?_
  rw [(clr_ne (by omega) _).1, hX.1.1]
  refine xnewI (N := bF b) hk dX9_peaces_16 n3 n4 (Nat.le_trans (Nat.mul_le_mul_right _ (show bF b ≤ 100 by omega)) (by decide)) (by omega) (by omega) (okR_new hC.appR) (fun a2 h2 => ?_)
  rw [List.length_append, List.length_singleton]
  rw [List.length_append, List.length_singleton] at h2
  rw [← h2 q (by omega), ← h2 qt (by omega), ← h2 lay.length (by omega)]
  refine xiconst (v := 0) hk dX9_peaces_18 (by decide) ?_
  refine xaload_n hk dX9_peaces_19 rfl ?_
  refine xaload_n hk dX9_peaces_20 rfl ?_
  refine xcallV hk (q := q) (c_X9_count (bF b) (dy := dy) (ca := ca) (m := m) (qd := lay.length + 1) (qm := lay.length) (qt := qt) (nx := 0) (p := 0) (mk := fun _ => 0) hL1.app hW ?_ hm ?_ (app_o app_n) (app_o (app_o ht)) ⟨⟨by omega, by omega, by omega⟩, ?_⟩ (by decide) (fun f hf => absurd hf (by omega)) (fun j hj => ?_) ?_ (by omega)) bX9_count kX9_45 dX9_peaces_21 rfl ⟨_, _, _, _, (hL1.app (l := [.inr (0, bF b)])).1, rfl⟩ rfl (by omega) ⟨by omega, by omega⟩ (Nat.le_of_ble_eq_true rfl) (fun v x1 hv => ?_)
  · refine hX.of (fun i j h3 h4 => ?_)
    rw [(clr_ne (by omega) _).1, (clr_ne (by omega) _).1]
  · rw [show lay.length + 1 = (lay ++ [(.inr (0, 2 + 2 * bF b) : Kd)]).length by rw [List.length_append, List.length_singleton]]
    exact app_n
  · rintro z (rfl | rfl | rfl) i h3 h4 <;> omega
  · rw [(clr_ne (by omega) _).1, (clr_eq _).1]; rfl
  · have := Nat.pow_le_pow_right (show 1 ≤ 2 by decide) hF.2
    show 0 + 32 * 2 ^ bF b ≤ 2 ^ 20
    omega
  obtain ⟨rfl, c1, c2, c3, c4, c5, c6⟩ := hv
  refine xdrop (fun j => decide (j < (lay ++ [(.inr (0, 2 + 2 * bF b) : Kd)]).length)) (okR_in hC.appR) (fun _ _ => rfl) ?_
  refine xaload_n hk dX9_peaces_24 rfl ?_
  refine xaretZ hk he dX9_peaces_25 (Or.inr ⟨_, rfl⟩) ⟨by omega, by omega⟩ ?_
  rw [Wn_0] at c4 c5 c6
  refine ⟨rfl, rfl, ⟨fun j hj => by rw [h2 j (by omega), h1 j (by omega)], fun i hi hq j => ⟨?_, ?_⟩⟩, fun j hj => by rw [c4 j hj, Nat.zero_add], fun hne => c6 rfl hne⟩
  · rw [c1 i j (by omega) (by omega) hq, (clr_ne (by omega) _).1, (clr_ne (by omega) _).1]
  · rw [c2, (clr_ne (by omega) _).2, (clr_ne (by omega) _).2]
