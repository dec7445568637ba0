theorem kX9_63 : Cond.methodLink RX9 63 yX9_from ∈ GW := gw_mem 879 (by decide +kernel) (by decide +kernel)
theorem bX9_from : CBv yX9_from cX9_from 10 (some (.array .int)) 1 := ⟨⟨gw_mem 882 (by decide +kernel) (by decide +kernel), gw_mem 5 (by decide +kernel) (by decide +kernel), by decide +kernel, by decide⟩, gw_mem 880 (by decide +kernel) (by decide +kernel), gw_mem 881 (by decide +kernel) (by decide +kernel)⟩
/-! All that follows, by hand -/
theorem Keep.refl (lay : List Kd) (a : Nat → Nat) (x : XS) (Q : Nat → Prop) : Keep lay a a x x Q := ⟨fun _ _ => rfl, fun _ _ _ _ => ⟨rfl, rfl⟩⟩
def folL (lay : List Kd) (N j : Nat) : List Kd := lay ++ [.inl (103, rowsK (lay.length + 1) j ++ List.replicate (N - j) 2)] ++ List.replicate j (.inr (0, N))
theorem folL_len (lay : List Kd) (N j : Nat) : (folL lay N j).length = lay.length + 1 + j := by
  rw [folL, List.length_append, List.length_append, List.length_singleton, List.length_replicate]
theorem folL_at (lay : List Kd) (N j : Nat) : (folL lay N j)[lay.length]? = some (.inl (103, rowsK (lay.length + 1) j ++ List.replicate (N - j) 2)) := by
  rw [folL]; exact app_o app_n
theorem folL_row (lay : List Kd) (N j : Nat) {c : Nat} (hc : c < j) : (folL lay N j)[lay.length + 1 + c]? = some (.inr (0, N)) := by
  rw [folL, List.getElem?_append_right (by rw [List.length_append, List.length_singleton]; omega), List.length_append, List.length_singleton, Nat.add_sub_cancel_left, List.getElem?_replicate, if_pos hc]
theorem folL_o {lay : List Kd} {N j i : Nat} {kd : Kd} (h : lay[i]? = some kd) : (folL lay N j)[i]? = some kd := by
  rw [folL]; exact app_o (app_o h)
theorem rowsK_mem {q n t : Nat} (h : t ∈ rowsK q n) : ∃ k, k < n ∧ t = q + k + 3 := by
  obtain ⟨k, hk, e⟩ := List.mem_map.mp h
  exact ⟨k, List.mem_range.mp hk, e.symm⟩
theorem folL_cl {lay : List Kd} (h : Cl lay) (N j : Nat) : Cl (folL lay N j) := by
  intro i o hi t ht h3
  rw [folL_len]
  by_cases h1 : i < lay.length
  · rw [folL, List.getElem?_append_left (by rw [List.length_append]; omega), List.getElem?_append_left h1] at hi
    have := h i o hi t ht h3
    omega
  · by_cases h2 : i = lay.length
    · subst h2
      rw [folL_at] at hi
      have e : o = (103, rowsK (lay.length + 1) j ++ List.replicate (N - j) 2) := (Sum.inl.inj (Option.some.inj hi)).symm
      rw [e] at ht
      rcases List.mem_append.mp ht with h4 | h4
      · obtain ⟨k, hk, rfl⟩ := rowsK_mem h4; omega
      · have := List.eq_of_mem_replicate h4; omega
    · have hl := at_lt hi
      rw [folL_len] at hl
      have := folL_row lay N j (c := i - lay.length - 1) (by omega)
      rw [show lay.length + 1 + (i - lay.length - 1) = i by omega, hi] at this
      cases this
theorem folL_step {lay : List Kd} {N j : Nat} (hj : j < N) : (folL lay N j ++ [(.inr (0, N) : Kd)]).set lay.length (.inl (103, (rowsK (lay.length + 1) j ++ List.replicate (N - j) 2).set j (lay.length + 1 + j + 3))) = folL lay N (j + 1) := by
  have e1 : (rowsK (lay.length + 1) j ++ List.replicate (N - j) 2).set j (lay.length + 1 + j + 3) = rowsK (lay.length + 1) (j + 1) ++ List.replicate (N - (j + 1)) 2 := by
    have h1 : rowsK (lay.length + 1) (j + 1) = rowsK (lay.length + 1) j ++ [lay.length + 1 + j + 3] := by
      rw [rowsK, rowsK, List.range_succ, List.map_append]; rfl
    rw [h1, show N - j = (N - (j + 1)) + 1 by omega, List.replicate_succ, List.set_append_right _ _ (by rw [rows_len]; exact Nat.le_refl _), rows_len, Nat.sub_self, List.append_assoc]
    rfl
  rw [e1, folL, folL, List.append_assoc, List.append_assoc, List.append_assoc, List.set_append_right _ _ (Nat.le_refl _), Nat.sub_self, List.replicate_succ']
  rfl
def FlE (lay : List Kd) (a : Nat → Nat) (x : XS) (b : Bok) (m : Nat) : Option Value → List Kd → (Nat → Nat) → XS → Prop := fun v lay' a' x' =>
  v = some (.ref (a' lay.length)) ∧ lay' = folL lay (2 * bF b) (2 * bF b) ∧ Keep lay a a' x x' (fun _ => False) ∧ ∀ c, c < 2 * bF b → ∀ d, d < 2 * bF b → x'.1 (lay.length + 1 + c) d = nI (fromD b m c d)
set_option maxHeartbeats 4000000 in
set_option maxRecDepth 100000 in
theorem c_X9_following {g : Gx} {a : Nat → Nat} {x : XS} {lay : List Kd} {q : Nat} {b : Bok} {m dy ca : Nat} (hL : SimL lay q b) (hW : BW b) (hX : SimX x q b m dy ca) (hm : m < 2 ^ 32) (hC : Cl lay) : Mz g yX9_following cX9_following 3 (some (.array (.array .int))) 10 11 110 lay a x [.ref (a q)] (FlE lay a x b m) := by
  refine Mz_of (by decide +kernel) (Nat.le_of_ble_eq_true rfl) ?_
  intro k hk he hg
  subst hg

  have hF := hW.1
  have hlt := hL.lt
  have n1 := nI_pos (n := 2 * bF b) (by omega)
  have n2 := nI_clamp (n := 2 * bF b) (by omega)
  refine xiconst (v := 2) hk dX9_following_0 (by decide) ?_
  refine xaload_n hk dX9_following_1 rfl ?_
  refine xgetI (ci := 9) (f := 0) hk dX9_following_2 ⟨rfl, by decide, _, hL.1, rfl⟩ kX9_19 ?_
  rw [hX.1.1]
  refine ximul hk dX9_following_5 ?_
  rw [two_nI]
  refine xanew (N := 2 * bF b) hk dX9_following_6 n1 n2 (by omega) (by omega) (by omega) (okR_new hC) (fun a1 h1 => ?_)
  rw [← h1 q (by omega)]
  have e0 : lay ++ [.inl (103, List.replicate (2 * bF b) 2)] = folL lay (2 * bF b) 0 := by
    rw [folL]; simp [rowsK]
  rw [e0]
  have loop : ∀ (n j : Nat) (v : Int32) (a2 : Nat → Nat) (y : XS), 2 * bF b - j < n → v = nI j → j ≤ 2 * bF b → Keep lay a a2 x y (fun _ => False) → (∀ c, c < j → ∀ d, d < 2 * bF b → y.1 (lay.length + 1 + c) d = nI (fromD b m c d)) → Wx k (1 + j) (2 * bF b + 10 * j) (folL lay (2 * bF b) j) a2 y 12 [(0, .ref (a2 q)), (1, .ref (a2 lay.length)), (2, .int v)] [] := by
    intro n
    induction n with
    | zero => intro j v a2 y h; omega
    | succ n ih =>
      intro j v a2 y hn hv hj K V
      subst hv
      have hLj : SimL (folL lay (2 * bF b) j) q b := by
        unfold folL; exact hL.app.app
      have hXj : SimX y q b m dy ca := hX.of (fun i j h3 h4 => (K.2 i (by omega) (fun z => z) j).1)
      refine xiload_n hk dX9_following_12 rfl ?_
      refine xaload_n hk dX9_following_13 rfl ?_
      refine xalenR (v := nI (2 * bF b)) hk dX9_following_14 (folL_at _ _ _) (by rw [List.length_append, rows_len, List.length_replicate, show j + (2 * bF b - j) = 2 * bF b by omega]; rfl) ?_
      refine xicmp_ge hk 32 dX9_following_15 (by decide) (fun h15 => ?_) (fun h15 => ?_)
      · rw [nI_leI (by omega) (by omega)] at h15
        obtain rfl : j = 2 * bF b := by omega
        refine xaload_n hk dX9_following_32 rfl ?_
        refine xaretZ hk he dX9_following_33 (Or.inr ⟨_, rfl⟩) ⟨by omega, by omega⟩ ?_
        exact ⟨rfl, rfl, K, V⟩
      · rw [nI_leI (by omega) (by omega)] at h15
        have hj2 : j < 2 * bF b := by omega
        refine xaload_n hk dX9_following_18 rfl ?_
        refine xiload_n hk dX9_following_19 rfl ?_
        refine xaload_n hk dX9_following_20 rfl ?_
        refine xiload_n hk dX9_following_21 rfl ?_
        refine xcallVZ hk (q := q) (c_X9_from (dy := dy) (ca := ca) (m := m) (st := j) hLj hW hXj hm (folL_cl hC _ _) hj2) bX9_from kX9_63 dX9_following_22 rfl ⟨_, _, _, _, hLj.1, rfl⟩ rfl (by omega) ⟨by omega, by omega⟩ (Nat.le_of_ble_eq_true rfl) (fun v lay3 a3 x3 hv => ?_)
        obtain ⟨rfl, rfl, K3, V3⟩ := hv
        rw [folL_len] at V3
        rw [folL_len]
        have K4 : Keep lay a a3 x x3 (fun _ => False) := ⟨fun i hi => by rw [K3.1 i (by rw [folL_len]; omega), K.1 i hi], fun i hi _ d => by
          have e := K3.2 i (by rw [folL_len]; omega) (fun z => z) d
          have e2 := K.2 i hi (fun z => z) d
          exact ⟨e.1.trans e2.1, e.2.trans e2.2⟩⟩
        rw [← K3.1 q (by rw [folL_len]; omega), ← K3.1 lay.length (by rw [folL_len]; omega)]
        have hrow : (folL lay (2 * bF b) j ++ [(.inr (0, 2 * bF b) : Kd)])[lay.length + 1 + j]? = some (.inr (0, 2 * bF b)) := by
          rw [← folL_len lay (2 * bF b) j]; exact app_n
        refine xaast hk dX9_following_25 (app_o (folL_at _ _ _)) hrow (by rw [List.length_append, rows_len, List.length_replicate]; exact vp_in_nI (by omega) (by omega)) ?_
        rw [nI_clamp (show j < 2 ^ 31 by omega), folL_step hj2]
        refine xiinc hk dX9_following_26 rfl (by decide) rfl ?_
        refine xgoto hk 12 dX9_following_29 (by decide) ?_
        refine xsub [(0, _), (1, _), (2, _)] rfl ?_
        refine xwiden (show 1 + j + 1 ≤ 1 + (j + 1) by omega) (show 2 * bF b + 10 * j + 10 ≤ 2 * bF b + 10 * (j + 1) by omega) ?_
        refine ih (j + 1) _ _ _ (by omega) (nI_inc j) (by omega) K4 (fun c hc d hd => ?_)
        by_cases e : c = j
        · rw [e]; exact V3 d hd
        · rw [(K3.2 (lay.length + 1 + c) (by rw [folL_len]; omega) (fun z => z) d).1]; exact V c (by omega) d hd
  refine xastore_n hk dX9_following_9 (by decide) ?_
  refine xiconst (v := 0) hk dX9_following_10 (by decide) ?_
  refine xistore_n hk dX9_following_11 (by decide) ?_
  refine xsub [(0, _), (1, _), (2, _)] rfl ?_
  refine xwiden (show 0 + 1 ≤ 1 + 0 by omega) (show 0 + 2 * bF b ≤ 2 * bF b + 10 * 0 by omega) ?_
  exact loop _ 0 _ a1 x (Nat.lt_succ_self _) rfl (by omega) ⟨fun i hi => h1 i (by omega), fun _ _ _ _ => ⟨rfl, rfl⟩⟩ (fun c hc => absurd hc (by omega))
theorem folL_full (lay : List Kd) (N : Nat) : (folL lay N N)[lay.length]? = some (.inl (103, rowsK (lay.length + 1) N)) := by
  rw [folL_at, Nat.sub_self, List.replicate_zero, List.append_nil]
