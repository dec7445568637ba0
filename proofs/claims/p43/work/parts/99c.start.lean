theorem bL_taught : CBs yL_taught cL_taught 5 (some .int) 2 := ⟨⟨gw_mem 944 (by decide +kernel) (by decide +kernel), gw_mem 0 (by decide +kernel) (by decide +kernel), by decide +kernel, by decide⟩, gw_mem 943 (by decide +kernel) (by decide +kernel)⟩
theorem kL_163 : Cond.methodLink RL 163 yL_book ∈ GW := gw_mem 1134 (by decide +kernel) (by decide +kernel)
theorem kL_167 : Cond.methodLink RL 167 yX8_init ∈ GW := gw_mem 31 (by decide +kernel) (by decide +kernel)
theorem kL_168 : Cond.methodLink RL 168 yL_taught ∈ GW := gw_mem 942 (by decide +kernel) (by decide +kernel)
/-! The bytes of a book's text -/
theorem asc_nil : Asc ([] : List Int32) := fun b h => absurd h List.not_mem_nil
theorem famT_asc : ∀ f, f < 100 → Asc (famT f)
  | 0, _ => asc_nil
  | f + 1, h => (((famT_asc f (by omega)).app (asc_tx (by decide))).app (numB_asc (by omega))).app (asc_tx (by decide))
theorem stmT_asc {b : Bok} (hW : BW b) : ∀ k, k ≤ bS b → Asc (stmT b k)
  | 0, _ => asc_nil
  | k + 1, h => by
    have h1 := hW.2.2.1 k (by omega)
    have h2 := hW.1.2
    have h3 := hW.2.1
    exact ((stmT_asc hW k (by omega)).app (toldB_asc (by omega) (by omega) (by omega))).app (asc_tx (by decide))
theorem ordT_asc {b : Bok} (hW : BW b) : ∀ k, k ≤ bM b → Asc (ordT b k)
  | 0, _ => asc_nil
  | k + 1, h => by
    obtain ⟨a1, a2, a3, a4, a5, a6⟩ := hW.2.2.2.2 k (by omega)
    have h2 := hW.1.2
    have h3 := hW.2.1
    have h4 : Asc (if bo b k 0 = 1 then txB 27 else txB 28) := by
      split
      · exact asc_tx (by decide)
      · exact asc_tx (by decide)
    exact ((((ordT_asc hW k (by omega)).app h4).app (numB_asc (by omega))).app (testB_asc _ _ _ _ _ (by omega) (by omega) (by omega) hW.1.1 (by omega))).app (asc_tx (by decide))
theorem bookT_asc {b : Bok} (hW : BW b) : Asc (bookT b) := ((famT_asc _ (by have := hW.1.2; omega)).app (stmT_asc hW _ (Nat.le_refl _))).app (ordT_asc hW _ (Nat.le_refl _))
theorem bookT_le {b : Bok} (hW : BW b) : (bookT b).length ≤ 900 := by
  have h1 := famT_le (bF b)
  have h2 := stmT_le b (bS b)
  have h3 := ordT_le b (bM b)
  have a1 := hW.1.2
  have a2 := hW.2.1
  have a3 := hW.2.2.2.1
  unfold bookT
  rw [List.length_append, List.length_append]; omega
/-! What the class's constructor leaves -/
theorem pk_i1 : ∀ (n : Nat) (l1 l2 : Int32) (x u : XS), i_X6_packKeywords_L9 n l1 l2 x = some u → u.1 = x.1
  | 0, _, _, _, _, h => by rw [i_X6_packKeywords_L9] at h; cases h
  | n + 1, l1, l2, x, u, h => by
    rw [i_X6_packKeywords_L9] at h
    unfold og at h
    split at h
    · cases h; rfl
    · split at h
      · split at h
        · exact pk_i1 n _ _ _ _ h
        · split at h
          · exact pk_i1 n _ _ _ _ h
          · split at h
            · have t := pk_i1 n _ _ _ _ h
              exact t
            · cases h
      · cases h
theorem pk_loc : ∀ (n : Nat) (l1 l2 : Int32) (x y u v : XS), (∀ j, x.2 4 j = y.2 4 j) → i_X6_packKeywords_L9 n l1 l2 x = some u → i_X6_packKeywords_L9 n l1 l2 y = some v → ∀ j, u.2 4 j = v.2 4 j
  | 0, _, _, _, _, _, _, _, h, _ => by rw [i_X6_packKeywords_L9] at h; cases h
  | n + 1, l1, l2, x, y, u, v, hxy, h, g => by
    rw [i_X6_packKeywords_L9] at h g
    unfold og at h g
    by_cases c1 : lenT 29 ≤ l2
    · rw [if_pos c1] at h g
      cases h; cases g; exact hxy
    · rw [if_neg c1] at h g
      by_cases c2 : inB l2 (txB 29).length = true
      · rw [if_pos c2] at h g
        by_cases c3 : chT 29 l2 = 32
        · rw [if_pos c3] at h g
          exact pk_loc n _ _ _ _ _ _ hxy h g
        · rw [if_neg c3] at h g
          by_cases c4 : 27 ≤ l1
          · rw [if_pos c4] at h g
            exact pk_loc n _ _ _ _ _ _ hxy h g
          · rw [if_neg c4] at h g
            by_cases c5 : inB l1 27 = true
            · rw [if_pos c5, if_pos c5] at h g
              refine pk_loc n _ _ _ _ _ _ (fun j => ?_) h g
              rw [hxy]
              show (if 4 = 4 ∧ j = _ then _ else x.2 4 j) = (if 4 = 4 ∧ j = _ then _ else y.2 4 j)
              rw [hxy]
            · rw [if_neg c5] at h; cases h
      · rw [if_neg c2] at h; cases h
theorem pk_zero {x : XS} (j : Nat) : (pkF x).2 4 j = (pkF x00).2 4 j := by
  have h1 : i_X6_packKeywords_L9 200 0 0 (clr x 4) = some (pkF x) := pk_some
  have h2 : i_X6_packKeywords_L9 200 0 0 (clr x00 4) = some (pkF x00) := pk_some
  refine pk_loc 200 0 0 (clr x 4) (clr x00 4) _ _ (fun j => ?_) h1 h2 j
  show (if 4 = 4 then (0 : Int64) else x.2 4 j) = (if 4 = 4 then (0 : Int64) else x00.2 4 j)
  rw [if_pos rfl, if_pos rfl]
theorem pk_kw : ∀ j, j < 27 → (pkF x00).2 4 j = kwT j := by decide +kernel
set_option maxRecDepth 1000000 in
theorem init_kw {x : XS} : KeyT kwT (i_X8_init x) := fun j hj => by
  have e : (i_X8_init x).2 4 j = (pkF (clr (i_X5_init_1 (clr x 1)) 3)).2 4 j := rfl
  rw [e, pk_zero]; exact pk_kw j hj
set_option maxRecDepth 1000000 in
theorem init_11 {x : XS} : (i_X8_init x).1 1 1 = 0 := by
  have e : (i_X8_init x).1 1 1 = (pkF (clr (i_X5_init_1 (clr x 1)) 3)).1 1 1 := rfl
  have h1 : i_X6_packKeywords_L9 200 0 0 (clr (clr (i_X5_init_1 (clr x 1)) 3) 4) = some (pkF (clr (i_X5_init_1 (clr x 1)) 3)) := pk_some
  rw [e, pk_i1 _ _ _ _ _ h1]; rfl
/-! The class's cells go to the front -/
theorem LF_ln : LF.length = 48 := rfl
theorem LF_in {q : Nat} {o : Nat × List Nat} (h : LF[q]? = some (.inl o)) {t : Nat} (ht : t ∈ o.2) (h3 : 3 ≤ t) : t - 3 < 48 := by
  have hf : okR LF (fun j => decide (j < LF.length)) = true := by decide +kernel
  have := okR_ref hf h ht h3
  rw [LF_ln] at this
  exact of_decide_eq_true this
def frL (fr : List Kd) : List Kd := LF ++ fr.map (mapK (fun j => 48 + j))
theorem frL_len (fr : List Kd) : (frL fr).length = 48 + fr.length := by rw [frL, List.length_append, List.length_map, LF_ln]
theorem frL_lo {fr : List Kd} {q : Nat} (h : q < 48) : (frL fr)[q]? = LF[q]? := List.getElem?_append_left (by rw [LF_ln]; exact h)
theorem frL_hi {fr : List Kd} (i : Nat) : (frL fr)[48 + i]? = (fr[i]?).map (mapK (fun j => 48 + j)) := by
  rw [frL, List.getElem?_append_right (by rw [LF_ln]; omega), LF_ln, Nat.add_sub_cancel_left, List.getElem?_map]
theorem frL_at {fr : List Kd} {i : Nat} {kd : Kd} (h : fr[i]? = some kd) : (frL fr)[48 + i]? = some (mapK (fun j => 48 + j) kd) := by rw [frL_hi, h]; rfl
theorem frL_is (fr : List Kd) : IsL (frL fr) := ⟨_, rfl⟩
theorem frL_cl {fr : List Kd} (h : Cl fr) : Cl (frL fr) := by
  intro i o hi t ht h3
  rw [frL_len]
  by_cases h48 : i < 48
  · rw [frL_lo h48] at hi
    have := LF_in hi ht h3
    omega
  · obtain ⟨j, rfl⟩ : ∃ j, i = 48 + j := ⟨i - 48, by omega⟩
    rw [frL_hi] at hi
    cases hf : fr[j]? with
    | none => rw [hf] at hi; cases hi
    | some kd =>
      rw [hf] at hi
      cases kd with
      | inr z => cases hi
      | inl p =>
        have e := Sum.inl.inj (Option.some.inj hi)
        rw [← e] at ht
        obtain ⟨t0, h1, h2⟩ := List.mem_map.mp ht
        by_cases q : t0 < 3
        · rw [if_pos q] at h2; omega
        · rw [if_neg q] at h2
          have h2' : 48 + (t0 - 3) + 3 = t := h2
          have := h j p hf t0 h1 (by omega)
          omega
theorem frL_sim {fr : List Kd} {q : Nat} {b : Bok} (h : SimL fr q b) : SimL (frL fr) (48 + q) b := by
  obtain ⟨h1, h2, h3, h4, h5⟩ := h
  have hr : ∀ p n, (rowsK p n).map (fun t => if t < 3 then t else (fun j => 48 + j) (t - 3) + 3) = rowsK (48 + p) n := by
    intro p n
    unfold rowsK
    rw [List.map_map]
    apply List.map_congr_left
    intro k _
    show (if p + k + 3 < 3 then p + k + 3 else 48 + (p + k + 3 - 3) + 3) = 48 + p + k + 3
    rw [if_neg (by omega)]; omega
  refine ⟨?_, ?_, ?_, fun k hk => ?_, fun k hk => ?_⟩
  · rw [frL_at h1]
    show some (.inl (9, [0, _, _, 0, 0]) : Kd) = _
    have e1 : (if q + 1 + 3 < 3 then q + 1 + 3 else 48 + (q + 1 + 3 - 3) + 3) = 48 + q + 1 + 3 := by rw [if_neg (by omega)]; omega
    have e2 : (if q + 2 + 3 < 3 then q + 2 + 3 else 48 + (q + 2 + 3 - 3) + 3) = 48 + q + 2 + 3 := by rw [if_neg (by omega)]; omega
    rw [← e1, ← e2]
  · rw [show 48 + q + 1 = 48 + (q + 1) by omega, frL_at h2, show 48 + q + 3 = 48 + (q + 3) by omega, ← hr]; rfl
  · rw [show 48 + q + 2 = 48 + (q + 2) by omega, frL_at h3, show 48 + q + 3 + bS b = 48 + (q + 3 + bS b) by omega, ← hr]; rfl
  · rw [show 48 + q + 3 + k = 48 + (q + 3 + k) by omega, frL_at (h4 k hk)]; rfl
  · rw [show 48 + q + 3 + bS b + k = 48 + (q + 3 + bS b + k) by omega, frL_at (h5 k hk)]; rfl
def frF (n : Nat) (q : Nat) : Nat := if q < 48 then n + q else q - 48
theorem frF_lo {n q : Nat} (h : q < 48) : frF n q = n + q := if_pos h
theorem frF_hi {n : Nat} (i : Nat) : frF n (48 + i) = i := by unfold frF; rw [if_neg (by omega), Nat.add_sub_cancel_left]
def frA (n : Nat) (a : Nat → Nat) : Nat → Nat := fun q => a (frF n q)
def frX (n : Nat) (x : XS) : XS := (fun q k => x.1 (frF n q) k, fun q k => x.2 (frF n q) k)
theorem xfront {k : Kx} {pc cells slots : Nat} {fr : List Kd} {a : Nat → Nat} {x : XS} {L : List (Nat × Value)} {stk : List Value} (kk : Wx k cells slots (frL fr) (frA fr.length a) (frX fr.length x) pc L stk) : Wx k cells slots (sufL fr LF) a x pc L stk := by
  refine xre (frF fr.length) (fun T q kd hq => ⟨rfl, ?_⟩) (fun i j hi hj e => ?_) kk
  · by_cases h : q < 48
    · rw [frL_lo h] at hq
      refine ⟨mapK (fun j => fr.length + j) kd, ?_, ?_⟩
      · rw [frF_lo h]
        unfold sufL
        rw [List.getElem?_append_right (by omega), Nat.add_sub_cancel_left, List.getElem?_map, hq]; rfl
      · have e1 : cellOf T (frA fr.length a) (frX fr.length x) q kd = cellOf T (fun j => a (fr.length + j)) (frX fr.length x) q kd := cell_a (fun o t ho ht h3 => by
          subst ho
          have := LF_in hq ht h3
          show a (frF fr.length (t - 3)) = a (fr.length + (t - 3))
          rw [frF_lo this])
        refine e1.trans ?_
        exact cell_map (σ := fun j => fr.length + j) (a := a) (x := x) (f := frF fr.length q) (x' := frX fr.length x) (q := q) (fun k => ⟨rfl, rfl⟩) kd
    · obtain ⟨i, rfl⟩ : ∃ i, q = 48 + i := ⟨q - 48, by omega⟩
      rw [frL_hi] at hq
      cases hf : fr[i]? with
      | none => rw [hf] at hq; cases hq
      | some kd0 =>
        rw [hf] at hq
        have e := Option.some.inj hq
        subst e
        refine ⟨kd0, ?_, ?_⟩
        · rw [frF_hi]
          unfold sufL
          rw [List.getElem?_append_left (List.getElem?_eq_some_iff.mp hf).1, hf]
        · have e2 := cell_map (T := T) (σ := fun j => 48 + j) (a := frA fr.length a) (x := frX fr.length x) (f := 48 + i) (x' := x) (q := i) (fun k => ⟨by show _ = x.1 (frF fr.length (48 + i)) k; rw [frF_hi], by show _ = x.2 (frF fr.length (48 + i)) k; rw [frF_hi]⟩) kd0
          have ea : (fun j => frA fr.length a (48 + j)) = a := by
            funext j
            show a (frF fr.length (48 + j)) = a j
            rw [frF_hi]
          rw [ea] at e2
          rw [frF_hi]
          exact e2.symm
  · rw [frL_len] at hi hj
    unfold frF at e
    by_cases h1 : i < 48
    · rw [if_pos h1] at e
      by_cases h2 : j < 48
      · rw [if_pos h2] at e; omega
      · rw [if_neg h2] at e; omega
    · rw [if_neg h1] at e
      by_cases h2 : j < 48
      · rw [if_pos h2] at e; omega
      · rw [if_neg h2] at e; omega
theorem SimX.sh {x y : XS} {q : Nat} {b : Bok} {m dy ca : Nat} (h : SimX x q b m dy ca) (e : ∀ i j, q ≤ i → i < q + 3 + bS b + bM b → y.1 (48 + i) j = x.1 i j) : SimX y (48 + q) b m dy ca := by
  obtain ⟨⟨h0, h3, h4⟩, hs, ho⟩ := h
  refine ⟨⟨?_, ?_, ?_⟩, fun k hk => ?_, fun k hk j hj => ?_⟩
  · rw [e q 0 (by omega) (by omega)]; exact h0
  · rw [e q 3 (by omega) (by omega)]; exact h3
  · rw [e q 4 (by omega) (by omega)]; exact h4
  · rw [show 48 + q + 3 + k = 48 + (q + 3 + k) by omega, e _ 0 (by omega) (by omega), e _ 1 (by omega) (by omega), e _ 2 (by omega) (by omega), e _ 3 (by omega) (by omega)]; exact hs k hk
  · rw [show 48 + q + 3 + bS b + k = 48 + (q + 3 + bS b + k) by omega, e _ j (by omega) (by omega)]; exact ho k hk j hj
theorem okR_0 : Cl ([] : List Kd) := fun i o h => by cases h
theorem own_0 : Own (bdr [] 16 []) 0 1 := by
  intro i o h hne
  match i, h with
  | 0, _ => exact absurd rfl hne
  | 1, h => cases h
  | i + 2, h => cases h
set_option maxHeartbeats 4000000 in
set_option maxRecDepth 100000 in
/-- the law, from its entry to its first round -/
theorem law_start {k : Kx} {nm : String} {ret : Option FieldType} (hk : Fok k cL_law 21 RL ret nm 1312 729000 6913000) (hNc : NcK k) (hfl : (kg k).1.stackTraces = false) (hN : scN (kg k) < 2 ^ 20)
    (kret : ∀ (L : List (Nat × Value)) (lay' : List Kd) (a' : Nat → Nat) (x' : XS), Wx k 700000 6000000 lay' a' x' 1322 L [.int 1]) : Wx k 0 0 [] (fun _ => 0) x00 0 [(0, .ref (sa k 3))] [] := by
  refine xnewSB hk dL_law_0 dL_law_3 dL_law_4 okR_0 (by omega) ⟨by omega, by omega⟩ (Nat.le_of_ble_eq_true rfl) (fun a1 x1 hB1 => ?_)
  refine xastore_n hk dL_law_7 (by decide) ?_
  refine xaload_n hk dL_law_8 rfl ?_
  refine xiconst (v := 5) hk dL_law_9 (by decide) ?_
  refine xaload_n hk dL_law_10 rfl ?_
  have hC1 : Cl (bdr [] 16 []) := bdr_cl okR_0 (okl_nil _) 16
  refine xcallSZ hk (c_L_book (qo := 0) (vo := 1) (cap := 16) hC1 own_0 hB1.2 hN) bL_book kL_163 dL_law_11 rfl rfl (by omega) ⟨by omega, by omega⟩ (Nat.le_of_ble_eq_true rfl) ?_
  have hW : BW (bookN (scN (kg k)) (scV (kg k))) := bookN_ok _ _
  generalize bookN (scN (kg k)) (scV (kg k)) = b at *
  rintro _ _ a2 x2 ⟨rfl, c, rfl, hBst⟩
  have hln : (LB (bdr [] 16 []) 1 c (bS b) (bM b)).length = 2 + (3 + bS b + bM b) := LB_len
  have hC2 : Cl (LB (bdr [] 16 []) 1 c (bS b) (bM b)) := LB_cl hC1
  have hSl : SimL (LB (bdr [] 16 []) 1 c (bS b) (bM b)) 2 b := LB_sim
  obtain ⟨hb1, hb2, hb3, hb4⟩ := hBst
  rw [List.append_nil] at hb3
  have ha0 : a2 0 = a1 0 := hb1 0 (by decide) (by decide)
  rw [show (bdr [] 16 []).length = 2 from rfl] at *
  rw [show ([] : List Kd).length = 0 from rfl, ← ha0]
  generalize LB (bdr [] 16 []) 1 c (bS b) (bM b) = fr at *
  refine xastore_n hk dL_law_14 (by decide) ?_
  refine xnew (ci := 8) (ft := [2, 2, 2, 2, 2, 2, 2, 2, 2, 2, 0]) hk tyX8 dL_law_15 (gw_mem 30 (by decide +kernel) (by decide +kernel)) (gw_mem 13 (by decide +kernel) (by decide +kernel)) tyX8_ok rfl rfl kdX8 (gw_mem 29 (by decide +kernel) (by decide +kernel)) (by omega) (by omega) (okR_new hC2) (fun a3 ha3 => ?_)
  have hA30 : a3 0 = a2 0 := ha3 0 (by omega)
  have hA32 : a3 2 = a2 2 := ha3 2 (by omega)
  rw [← hA30, ← hA32]
  have hx3 : ∀ i, i < fr.length → ∀ j, (clr x2 fr.length).1 i j = x2.1 i j ∧ (clr x2 fr.length).2 i j = x2.2 i j := fun i hi j => clr_o i hi j
  generalize clr x2 fr.length = x3 at *
  refine xlay (lay' := sufL fr YX8_init_0) rfl ?_
  refine xdup hk dL_law_18 rfl ?_
  refine xcallIQ (fr := fr) (a1 := fun j => a3 (fr.length + j)) (x0 := pul fr.length x3) (n := 0) (okR_in hC2) rfl rfl hk c_X8_init ⟨gw_mem 33 (by decide +kernel) (by decide +kernel), gw_mem 13 (by decide +kernel) (by decide +kernel), by decide +kernel, by decide⟩ (gw_mem 32 (by decide +kernel) (by decide +kernel)) rfl kL_167 dL_law_19 rfl rfl (by omega) ⟨by omega, by omega⟩ (Nat.le_of_ble_eq_true rfl) ?_
  rintro _ _ a4 _ ⟨rfl, rfl, rfl, ha4⟩
  have hA5 : sufA fr.length a3 a4 fr.length = a3 fr.length := by
    unfold sufA
    rw [if_neg (Nat.lt_irrefl _), Nat.sub_self, ha4 0 (Or.inl (by decide))]; rfl
  have hA50 : sufA fr.length a3 a4 0 = a3 0 := if_pos (by omega)
  have hA52 : sufA fr.length a3 a4 2 = a3 2 := if_pos (by omega)
  have hx5 : ∀ i, i < fr.length → ∀ j, (sufX fr.length x3 (i_X8_init (pul fr.length x3))).1 i j = x2.1 i j ∧ (sufX fr.length x3 (i_X8_init (pul fr.length x3))).2 i j = x2.2 i j := fun i hi j => by
    obtain ⟨e1, e2⟩ := hx3 i hi j
    exact ⟨(if_pos hi).trans e1, (if_pos hi).trans e2⟩
  have hx5k : ∀ i j, (sufX fr.length x3 (i_X8_init (pul fr.length x3))).1 (fr.length + i) j = (i_X8_init (pul fr.length x3)).1 i j ∧ (sufX fr.length x3 (i_X8_init (pul fr.length x3))).2 (fr.length + i) j = (i_X8_init (pul fr.length x3)).2 i j := fun i j => by
    obtain ⟨e1, e2⟩ := sufX_ge (off := fr.length) (j := i) (x := x3) (x1 := i_X8_init (pul fr.length x3)) j
    exact ⟨e1.symm, e2.symm⟩
  have hkw : KeyT kwT (i_X8_init (pul fr.length x3)) := init_kw
  have h11 : (i_X8_init (pul fr.length x3)).1 1 1 = 0 := init_11
  rw [← hA5, ← hA50, ← hA52]
  generalize sufA fr.length a3 a4 = a5 at *
  generalize i_X8_init (pul fr.length x3) = xi at *
  generalize sufX fr.length x3 xi = x5 at *
  refine xlay (lay' := sufL fr LF) rfl ?_
  refine xastore_n hk dL_law_22 (by decide) ?_
  refine xfront ?_
  have gA : ∀ i, frA fr.length a5 (48 + i) = a5 i := fun i => by
    show a5 (frF fr.length (48 + i)) = _
    rw [frF_hi]
  have gA0 : frA fr.length a5 0 = a5 fr.length := rfl
  have gX : ∀ i j, (frX fr.length x5).1 (48 + i) j = x5.1 i j ∧ (frX fr.length x5).2 (48 + i) j = x5.2 i j := fun i j => by
    constructor
    · show x5.1 (frF fr.length (48 + i)) j = _
      rw [frF_hi]
    · show x5.2 (frF fr.length (48 + i)) j = _
      rw [frF_hi]
  have gX0 : ∀ i, i < 48 → ∀ j, (frX fr.length x5).1 i j = xi.1 i j ∧ (frX fr.length x5).2 i j = xi.2 i j := fun i hi j => by
    have e := hx5k i j
    constructor
    · show x5.1 (frF fr.length i) j = _
      rw [frF_lo hi]; exact e.1
    · show x5.2 (frF fr.length i) j = _
      rw [frF_lo hi]; exact e.2
  rw [← gA 0, ← gA 2, ← gA0]
  generalize frA fr.length a5 = a6 at *
  generalize frX fr.length x5 = x6 at *
  have hI : IsL (frL fr) := frL_is fr
  have hC6 : Cl (frL fr) := frL_cl hC2
  have hS6 : SimL (frL fr) 50 b := frL_sim hSl
  have hln6 := frL_len fr
  have hSB6 : SB (frL fr) x6 48 49 c (bookT b) := by
    obtain ⟨s1, s2, s3, s4, s5, s6, s7, s8⟩ := hb3
    have y : ∀ i, i < fr.length → ∀ j, x6.1 (48 + i) j = x2.1 i j := fun i hi j => (gX i j).1.trans (hx5 i hi j).1
    have z0 := fun j => y 0 (by omega) j
    have z1 := fun j => y 1 (by omega) j
    refine ⟨?_, ?_, (z0 1).trans s3, (z0 3).trans s4, s5, s6, fun j hj => ?_, fun j hj => ?_⟩
    · have := frL_at s1; exact this
    · have := frL_at s2; exact this
    · rw [show (49 : Nat) = 48 + 1 from rfl, z1]; exact s7 j hj
    · rw [show (49 : Nat) = 48 + 1 from rfl, z1]; exact s8 j hj
  have hX6 : SimX x6 50 b (2 ^ bS b - 1) 0 0 := by
    have hf := hb4.full
    refine hf.sh (fun i j h1 h2 => ?_)
    exact (gX i j).1.trans (hx5 i (by omega) j).1
  have h116 : x6.1 1 1 = nI 0 := ((gX0 1 (by decide) 1).1).trans h11
  have hK6 : KeyT kwT x6 := fun j hj => ((gX0 4 (by decide) j).2).trans (hkw j hj)
  generalize frL fr = lay at *
  refine xaload_n hk dL_law_23 rfl ?_
  refine xaload_n hk dL_law_24 rfl ?_
  refine xcallVZ hk (c_J4_toString_0e30d (T := 900) hC6 hSB6 (bookT_le hW)) bJ4_toString_0e30d kL_48 dL_law_25 rfl ⟨_, _, _, _, hSB6.1, rfl⟩ rfl (by omega) ⟨by omega, by omega⟩ (Nat.le_of_ble_eq_true rfl) ?_
  rintro _ _ a7 x7 ⟨rfl, rfl, hK7, h70, h7b⟩
  rw [← hK7.1 0 (by omega), ← hK7.1 48 (by omega), ← hK7.1 50 (by omega)]
  have hI7 : IsL (lay ++ [.inl (10, [lay.length + 4, 0, 0, 0]), .inr (2, (bookT b).length)]) := hI.app
  have hC7 : Cl (lay ++ [.inl (10, [lay.length + 4, 0, 0, 0]), .inr (2, (bookT b).length)]) := by
    have := cl_str (n := (bookT b).length) hC6
    rw [List.append_assoc] at this; exact this
  have hD7 : StrD (lay ++ [.inl (10, [lay.length + 4, 0, 0, 0]), .inr (2, (bookT b).length)]) x7 lay.length (lay.length + 1) (bookT b) := by
    refine ⟨?_, ?_, h70, h7b⟩
    · rw [List.getElem?_append_right (Nat.le_refl _), Nat.sub_self]; rfl
    · rw [List.getElem?_append_right (by omega), Nat.add_sub_cancel_left]; rfl
  have h117 : x7.1 1 1 = nI 0 := (hK7.2 1 (by omega) (fun h => h) 1).1.trans h116
  have hK7k : KeyT kwT x7 := fun j hj => (hK7.2 4 (by omega) (fun h => h) j).2.trans (hK6 j hj)
  refine xcallSZ hk (c_L_taught hI7 hC7 hfl hD7 (bookT_asc hW) (Nat.le_trans (bookT_le hW) (by decide)) ⟨by omega, by omega⟩ h117 (by decide)) bL_taught kL_168 dL_law_28 rfl rfl (by omega) ⟨by omega, by omega⟩ (Nat.le_of_ble_eq_true rfl) ?_
  rintro _ _ a8 x8 ⟨xt, ht1, ht2, rfl, rfl, ha8, hx8, hx9⟩
  have hKt : KeyT kwT xt := fun j hj => (ht2 4 (by decide) (by decide) (by decide) j).2.trans (hK7k j hj)
  obtain ⟨r1, r2⟩ := teach_ok hW (tape_TL ht1 (bookT_asc hW) (Nat.le_trans (bookT_le hW) (by decide))) hKt
  rw [r1]
  have hCx : Cls b (2 ^ bS b - 1) 0 0 x8 := r2.of hx8
  have hl7 : (lay ++ [.inl (10, [lay.length + 4, 0, 0, 0]), .inr (2, (bookT b).length)] : List Kd).length = lay.length + 2 := by rw [List.length_append]; rfl
  rw [← ha8 0 (by omega), ← ha8 48 (by omega), ← ha8 50 (by omega)]
  have hX8 : SimX x8 50 b (2 ^ bS b - 1) 0 0 := by
    refine hX6.of (fun i j h1 h2 => ?_)
    exact (hx9 i (by omega) (by omega) j).1.trans (hK7.2 i (by omega) (fun h => h) j).1
  have hI8 := hI7.app (l := [.inr (0, 5)])
  have hC8 := hC7.appR (z := (0, 5))
  have hS8 : SimL ((lay ++ [.inl (10, [lay.length + 4, 0, 0, 0]), .inr (2, (bookT b).length)]) ++ [.inr (0, 5)]) 50 b := hS6.app.app
  generalize (lay ++ [.inl (10, [lay.length + 4, 0, 0, 0]), .inr (2, (bookT b).length)] ++ [.inr (0, 5)] : List Kd) = lay8 at *
  clear r1 r2 hx8 hx9 ht1 ht2 hKt
  refine xif_eq hk 36 dL_law_31 (by decide) (fun h31 => ?_) (fun h31 => absurd rfl h31)
  refine xiconst (v := 2) hk dL_law_36 (by decide) ?_
  refine xaload_n hk dL_law_37 rfl ?_
  obtain ⟨y38, e38, hCy38⟩ := q_families hCx
  refine xaskPL (v := .int (nI (bF b))) hI8 hk hCy38 (c_X8_families e38) bX8_families rfl kL_172 dL_law_38 rfl rfl (by omega) ⟨by omega, by omega⟩ (Nat.le_of_ble_eq_true rfl) (fun x9 hC9 hS9 => ?_)
  refine ximul hk dL_law_41 ?_
  rw [two_mul_nI]
  refine xistore hk dL_law_42 (by decide) ?_
  refine xiconst (v := 0) hk dL_law_44 (by decide) ?_
  refine xistore hk dL_law_45 (by decide) ?_
  have hX9 : SimX x9 50 b (2 ^ bS b - 1) 0 0 := hX8.of (fun i j h1 _ => (hS9 i (by omega) j).1)
  refine xsub [(0, .ref (sa k 3)), (1, .ref (a8 48)), (2, .ref (a8 50)), (3, .ref (a8 0)), (4, .int (nI (2 * bF b))), (5, .int 0)] rfl ?_
  exact lw_rounds hk hNc (by omega) hI8 hfl hC9 hS8 (by omega) hX9 hC8 hN ⟨by omega, by omega⟩ (fun L lay' a' x' => xwiden (by omega) (by omega) (kret L lay' a' x'))
