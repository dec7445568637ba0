theorem kX9_49 : Cond.methodLink RX9 49 yX9_peaces ∈ GW := gw_mem 860 (by decide +kernel) (by decide +kernel)
theorem bX9_peaces : CBv yX9_peaces cX9_peaces 3 (some (.array .int)) 1 := ⟨⟨gw_mem 863 (by decide +kernel) (by decide +kernel), gw_mem 5 (by decide +kernel) (by decide +kernel), by decide +kernel, by decide⟩, gw_mem 861 (by decide +kernel) (by decide +kernel), gw_mem 862 (by decide +kernel) (by decide +kernel)⟩
/-! Peaces and parts by hand -/
theorem xback {k : Kx} {pc cells slots : Nat} {lay kds : List Kd} {a a' : Nat → Nat} {x x' : XS} {L : List (Nat × Value)} {stk : List Value} (hC : Cl lay) (hK : Keep lay a a' x x' (fun _ => False)) (kk : Wx k cells slots lay a x pc L stk) : Wx k cells slots (lay ++ kds) a' x' pc L stk := by
  refine xre id (fun T q kd hq => ?_) (fun i j _ _ h => h) kk
  have hl := at_lt hq
  refine ⟨(hK.1 q hl).symm, kd, app_o hq, ?_⟩
  rw [cell_a (a := a') (a' := a) (fun o t ho ht h3 => (hK.1 _ (hC q o (by rw [hq, ho]) t ht h3)).symm)]
  exact (cell_other (fun k => (hK.2 q hl (fun z => z) k).1) (fun k => (hK.2 q hl (fun z => z) k).2) kd).symm
theorem cN_0 (W : Nat → Bool) (F : Nat) : cN W F 0 = fb_ct W (2 ^ F) := if_pos rfl
set_option maxHeartbeats 4000000 in
set_option maxRecDepth 100000 in
theorem c_X9_peaces_ {g : Gx} {a : Nat → Nat} {x : XS} {lay : List Kd} {q : Nat} {b : Bok} {m dy ca : Nat} (hL : SimL lay q b) (hW : BW b) (hX : SimX x q b m dy ca) (hm : m < 2 ^ 32) (hC : Cl lay) : Mx g yX9_peaces_ cX9_peaces_ 1 (some .int) 10 3 22 lay a x [.ref (a q)] (pr (some (.int (nI (cN (Pm b m) (bF b) 0)))) x) := by
  refine Mx_of (by decide +kernel) (Nat.le_of_ble_eq_true rfl) ?_
  intro k hk he hg
  subst hg

  have hF := hW.1
  have hlt := hL.lt
  have n3 := nI_pos (n := bF b) (by omega)
  have n4 := nI_clamp (n := bF b) (by omega)
  refine xaload_n hk dX9_peaces__0 rfl ?_
  refine xaload_n hk dX9_peaces__1 rfl ?_
  refine xgetI (ci := 9) (f := 0) hk dX9_peaces__2 ⟨rfl, by decide, _, hL.1, rfl⟩ kX9_19 ?_
  rw [hX.1.1]
  refine xnewI (N := bF b) hk dX9_peaces__5 n3 n4 (Nat.le_trans (Nat.mul_le_mul_right _ (show bF b ≤ 100 by omega)) (by decide)) (by omega) (by omega) (okR_new hC) (fun a1 h1 => ?_)
  rw [← h1 q (by omega)]
  have hL1 : SimL (lay ++ [.inr (0, bF b)]) q b := hL.app
  refine xcallVZ hk (q := q) (c_X9_peaces (dy := dy) (ca := ca) (qt := lay.length) (m := m) hL1 hW (hX.of (fun i j h3 h4 => (clr_ne (by omega) _).1)) hm hC.appR app_n (by omega)) bX9_peaces kX9_49 dX9_peaces__7 rfl ⟨_, _, _, _, hL1.1, rfl⟩ rfl (by omega) ⟨by omega, by omega⟩ (Nat.le_of_ble_eq_true rfl) (fun v lay2 a2 x2 hv => ?_)
  obtain ⟨rfl, rfl, K2, V2, T2⟩ := hv
  rw [List.length_append, List.length_singleton] at V2
  rw [List.length_append, List.length_singleton]
  have K3 : Keep lay a a2 x x2 (fun _ => False) := ⟨fun j hj => by rw [K2.1 j (by rw [List.length_append, List.length_singleton]; omega), h1 j (by omega)], fun i hi _ j => by
    have e := K2.2 i (by rw [List.length_append, List.length_singleton]; omega) (by omega) j
    exact ⟨e.1.trans (clr_ne (by omega) _).1, e.2.trans (clr_ne (by omega) _).2⟩⟩
  have hrow : ((lay ++ [(.inr (0, bF b) : Kd)]) ++ [.inr (0, 2 + 2 * bF b)])[lay.length + 1]? = some (.inr (0, 2 + 2 * bF b)) := by
    rw [show lay.length + 1 = (lay ++ [(.inr (0, bF b) : Kd)]).length by rw [List.length_append, List.length_singleton]]
    exact app_n
  refine xiconst (v := 0) hk dX9_peaces__10 (by decide) ?_
  refine xiald hk dX9_peaces__11 hrow (show vp_in (nI 0) _ from vp_in_nI (by omega) (by omega)) ?_
  rw [show (0 : Int32).toNatClampNeg = 0 from rfl, V2 0 (by omega)]
  rw [List.append_assoc]
  refine xlocs (L' := []) (fun _ h => absurd h List.not_mem_nil) ?_
  refine xback hC K3 ?_
  refine xiret hk he dX9_peaces__12 ⟨by omega, by omega⟩ ?_
  exact ⟨rfl, rfl⟩
/-- the least of those from N - k on -/
def lowD (p : Nat → Bool) (N : Nat) : Nat → Nat
  | 0 => 0
  | k + 1 => if p (N - (k + 1)) then N - (k + 1) else lowD p N k
theorem lowD_eq {p : Nat → Bool} {N i0 : Nat} (h0 : i0 < N) (hp : p i0 = true) (hl : ∀ j, j < i0 → p j = false) : ∀ k, k ≤ N → N - k ≤ i0 → lowD p N k = i0
  | 0, _, h => absurd h (by omega)
  | k + 1, hk, h => by
    rw [lowD]
    by_cases e : N - (k + 1) = i0
    · rw [e, if_pos hp]
    · rw [hl _ (by omega), if_neg (by decide)]
      exact lowD_eq h0 hp hl k (by omega) (by omega)
theorem lowD_lst {A : Mat} {N c : Nat} (hc : c < N) (hN : N ≤ 20) (hr : A c c = true) : lowD (fun i => A i c && A c i) N N = lst A c := by
  obtain ⟨i0, h1, h2, h3⟩ := least (p := fun i => A i c && A c i) (c := c) (by show (A c c && A c c) = true; rw [hr]; rfl)
  rw [lowD_eq (by omega) h2 h3 N (Nat.le_refl _) (by omega)]
  exact (fst_eq (p := fun i => A i c && A c i) h2 20 0 (Nat.zero_le _) (by omega) (fun j _ hj => h3 j hj)).symm
def tpI (n : Nat) : Int32 := nI n + Int32.ofInt (-1)
theorem tpI_s (n : Nat) : tpI (n + 1) = nI n := by
  show nI (n + 1) + Int32.ofInt (-1) = nI n
  rw [← nI_1, Int32.add_assoc, show (1 : Int32) + Int32.ofInt (-1) = 0 from by decide, Int32.add_zero]
theorem tpI_sub (n : Nat) : nI n - 1 = tpI n := by
  show nI n - 1 = nI n + Int32.ofInt (-1)
  rw [Int32.sub_eq_add_neg]; rfl
def PtE (lay : List Kd) (a : Nat → Nat) (x : XS) (N : Nat) (A : Mat) : Option Value → List Kd → (Nat → Nat) → XS → Prop := fun v lay' a' x' =>
  v = some (.ref (a' lay.length)) ∧ lay' = lay ++ [.inr (0, N)] ∧ Keep lay a a' x x' (fun _ => False) ∧ ∀ c, c < N → x'.1 lay.length c = nI (lst A c)
set_option maxHeartbeats 4000000 in
set_option maxRecDepth 100000 in
theorem c_X9_parts {g : Gx} {a : Nat → Nat} {x : XS} {lay : List Kd} {qf r0 N : Nat} {V : Nat → Nat → Nat} {A : Mat} (hC : Cl lay) (hN : N ≤ 10) (hf : lay[qf]? = some (.inl (103, rowsK r0 N))) (hr : ∀ c, c < N → lay[r0 + c]? = some (.inr (0, N))) (hv : ∀ c, c < N → ∀ d, d < N → x.1 (r0 + c) d = nI (V c d) ∧ V c d ≤ 999 ∧ (V c d < 999 ↔ A c d = true)) (hA : ∀ c, A c c = true) : Mz g yX9_parts cX9_parts 4 (some (.array .int)) 3 1 10 lay a x [.ref (a qf)] (PtE lay a x N A) := by
  refine Mz_of (by decide +kernel) (Nat.le_of_ble_eq_true rfl) ?_
  intro k hk he hg
  subst hg

  have hq := at_lt hf
  have n1 := nI_pos (n := N) (by omega)
  have n2 := nI_clamp (n := N) (by omega)
  refine xaload_n hk dX9_parts_0 rfl ?_
  refine xalenR (v := nI N) hk dX9_parts_1 hf (by rw [rows_len]; rfl) ?_
  refine xnewI (N := N) hk dX9_parts_2 n1 n2 (Nat.le_trans (Nat.mul_le_mul_right _ (show N ≤ 100 by omega)) (by decide)) (by omega) (by omega) (okR_new hC) (fun a1 h1 => ?_)
  rw [← h1 qf (by omega)]
  have inner : ∀ c, c < N → (∀ y' : XS, RowIs x y' lay.length N (fun d => if d < c + 1 then lst A d else 0) → Wx k (0 + 1) (0 + N) (lay ++ [.inr (0, N)]) a1 y' 7 [(0, .ref (a1 qf)), (1, .ref (a1 lay.length)), (2, .int (nI (c + 1)))] []) → ∀ (k2 : Nat) (v : Int32) (y : XS), v = tpI k2 → k2 ≤ N → RowIs x y lay.length N (fun d => if d < c then lst A d else if d = c then lowD (fun i => A i c && A c i) N (N - k2) else 0) → Wx k (0 + 1) (0 + N) (lay ++ [.inr (0, N)]) a1 y 18 [(0, .ref (a1 qf)), (1, .ref (a1 lay.length)), (2, .int (nI c)), (3, .int v)] [] := by
    intro c hc kk k2
    induction k2 with
    | zero =>
      intro v y hv hk2 hR
      subst hv
      refine xiload_n hk dX9_parts_18 rfl ?_
      refine xif_lt hk 54 dX9_parts_19 (by decide) (fun h19 => ?_) (fun h19 => ?_)
      · refine xiinc hk dX9_parts_54 rfl (by decide) rfl ?_
        refine xgoto hk 7 dX9_parts_57 (by decide) ?_
        refine xsub [(0, _), (1, _), (2, _)] rfl ?_
        rw [nI_inc]
        refine kk y (hR.cong (fun d hd => ?_))
        by_cases e1 : d < c
        · rw [if_pos e1, if_pos (by omega)]
        · rw [if_neg e1]
          by_cases e2 : d = c
          · rw [if_pos e2, if_pos (by omega), e2, Nat.sub_zero]; exact lowD_lst hc (by omega) (hA c)
          · rw [if_neg e2, if_neg (by omega)]
      · exact absurd (show tpI 0 < 0 by decide) h19
    | succ k2 ih =>
      intro v y hv hk2 hR
      rw [tpI_s] at hv
      subst hv
      have hj2 : k2 < N := by omega
      refine xiload_n hk dX9_parts_18 rfl ?_
      refine xif_lt hk 54 dX9_parts_19 (by decide) (fun h19 => ?_) (fun h19 => ?_)
      · exact absurd h19 (nI_pos (by omega))
      · refine xaload_n hk dX9_parts_22 rfl ?_
        refine xiload_n hk dX9_parts_23 rfl ?_
        refine xaald hk dX9_parts_24 (app_o hf) (rows_in hc (by omega)) (rows_at hc (by omega)) ?_
        refine xiload_n hk dX9_parts_25 rfl ?_
        refine xiald hk dX9_parts_26 (app_o (hr _ hc)) (vp_in_nI hj2 (by omega)) ?_
        rw [nI_clamp (by omega), (hR.1 _ (by have := at_lt (hr _ hc); omega) _).1, (hv _ hc _ hj2).1]
        refine xsipush (v := 999) hk dX9_parts_27 (by decide) ?_
        refine xicmp_ge hk 48 dX9_parts_30 (by decide) (fun h30 => ?_) (fun h30 => ?_)
        · have b1 := (hv _ hc _ hj2).2.1
          rw [show (999 : Int32) = nI 999 from rfl, nI_leI (by decide) (by omega)] at h30
          refine xiinc hk dX9_parts_48 rfl (by decide) rfl ?_
          refine xgoto hk 18 dX9_parts_51 (by decide) ?_
          refine xsub [(0, _), (1, _), (2, _), (3, _)] rfl ?_
          refine ih _ _ rfl (by omega) ?_
          rw [show N - k2 = (N - (k2 + 1)) + 1 by omega]
          have hpe : N - (N - (k2 + 1) + 1) = k2 := by omega
          first
            | have p1 : (A k2 c && A c k2) = true := by rw [(hv _ hj2 _ hc).2.2.mp (by omega), (hv _ hc _ hj2).2.2.mp (by omega)]; rfl
              refine (hR.set (w := c) (v := k2)).cong (fun d hd => ?_)
              by_cases e2 : d = c
              · rw [if_pos e2, if_neg (by omega), if_pos e2, lowD, hpe]
                try dsimp only
                rw [p1, if_pos rfl]
              · rw [if_neg e2]
                by_cases e1 : d < c
                · rw [if_pos e1, if_pos e1]
                · rw [if_neg e1, if_neg e2, if_neg e1, if_neg e2]
            | have p0 : (A k2 c && A c k2) = false := by
                cases h1 : A c k2 with
                | false => exact Bool.and_false _
                | true =>
                  cases h2 : A k2 c with
                  | false => rfl
                  | true =>
                    have z1 := (hv _ hc _ hj2).2.2.mpr h1
                    have z2 := (hv _ hj2 _ hc).2.2.mpr h2
                    omega
              refine hR.cong (fun d hd => ?_)
              by_cases e1 : d < c
              · rw [if_pos e1, if_pos e1]
              · rw [if_neg e1, if_neg e1]
                by_cases e2 : d = c
                · rw [if_pos e2, if_pos e2, lowD, hpe]
                  try dsimp only
                  rw [p0, if_neg (by decide)]
                · rw [if_neg e2, if_neg e2]
        · have b1 := (hv _ hc _ hj2).2.1
          rw [show (999 : Int32) = nI 999 from rfl, nI_leI (by decide) (by omega)] at h30
          refine xaload_n hk dX9_parts_33 rfl ?_
          refine xiload_n hk dX9_parts_34 rfl ?_
          refine xaald hk dX9_parts_35 (app_o hf) (rows_in hj2 (by omega)) (rows_at hj2 (by omega)) ?_
          refine xiload_n hk dX9_parts_36 rfl ?_
          refine xiald hk dX9_parts_37 (app_o (hr _ hj2)) (vp_in_nI hc (by omega)) ?_
          rw [nI_clamp (by omega), (hR.1 _ (by have := at_lt (hr _ hj2); omega) _).1, (hv _ hj2 _ hc).1]
          refine xsipush (v := 999) hk dX9_parts_38 (by decide) ?_
          refine xicmp_ge hk 48 dX9_parts_41 (by decide) (fun h41 => ?_) (fun h41 => ?_)
          · have b2 := (hv _ hj2 _ hc).2.1
            rw [show (999 : Int32) = nI 999 from rfl, nI_leI (by decide) (by omega)] at h41
            refine xiinc hk dX9_parts_48 rfl (by decide) rfl ?_
            refine xgoto hk 18 dX9_parts_51 (by decide) ?_
            refine xsub [(0, _), (1, _), (2, _), (3, _)] rfl ?_
            refine ih _ _ rfl (by omega) ?_
            rw [show N - k2 = (N - (k2 + 1)) + 1 by omega]
            have hpe : N - (N - (k2 + 1) + 1) = k2 := by omega
            first
              | have p1 : (A k2 c && A c k2) = true := by rw [(hv _ hj2 _ hc).2.2.mp (by omega), (hv _ hc _ hj2).2.2.mp (by omega)]; rfl
                refine (hR.set (w := c) (v := k2)).cong (fun d hd => ?_)
                by_cases e2 : d = c
                · rw [if_pos e2, if_neg (by omega), if_pos e2, lowD, hpe]
                  try dsimp only
                  rw [p1, if_pos rfl]
                · rw [if_neg e2]
                  by_cases e1 : d < c
                  · rw [if_pos e1, if_pos e1]
                  · rw [if_neg e1, if_neg e2, if_neg e1, if_neg e2]
              | have p0 : (A k2 c && A c k2) = false := by
                  cases h1 : A c k2 with
                  | false => exact Bool.and_false _
                  | true =>
                    cases h2 : A k2 c with
                    | false => rfl
                    | true =>
                      have z1 := (hv _ hc _ hj2).2.2.mpr h1
                      have z2 := (hv _ hj2 _ hc).2.2.mpr h2
                      omega
                refine hR.cong (fun d hd => ?_)
                by_cases e1 : d < c
                · rw [if_pos e1, if_pos e1]
                · rw [if_neg e1, if_neg e1]
                  by_cases e2 : d = c
                  · rw [if_pos e2, if_pos e2, lowD, hpe]
                    try dsimp only
                    rw [p0, if_neg (by decide)]
                  · rw [if_neg e2, if_neg e2]
          · have b2 := (hv _ hj2 _ hc).2.1
            rw [show (999 : Int32) = nI 999 from rfl, nI_leI (by decide) (by omega)] at h41
            refine xaload_n hk dX9_parts_44 rfl ?_
            refine xiload_n hk dX9_parts_45 rfl ?_
            refine xiload_n hk dX9_parts_46 rfl ?_
            refine xiast hk dX9_parts_47 app_n (vp_in_nI (by omega) (by omega)) ?_
            rw [nI_clamp (show c < 2 ^ 31 by omega)]
            refine xiinc hk dX9_parts_48 rfl (by decide) rfl ?_
            refine xgoto hk 18 dX9_parts_51 (by decide) ?_
            refine xsub [(0, _), (1, _), (2, _), (3, _)] rfl ?_
            refine ih _ _ rfl (by omega) ?_
            rw [show N - k2 = (N - (k2 + 1)) + 1 by omega]
            have hpe : N - (N - (k2 + 1) + 1) = k2 := by omega
            first
              | have p1 : (A k2 c && A c k2) = true := by rw [(hv _ hj2 _ hc).2.2.mp (by omega), (hv _ hc _ hj2).2.2.mp (by omega)]; rfl
                refine (hR.set (w := c) (v := k2)).cong (fun d hd => ?_)
                by_cases e2 : d = c
                · rw [if_pos e2, if_neg (by omega), if_pos e2, lowD, hpe]
                  try dsimp only
                  rw [p1, if_pos rfl]
                · rw [if_neg e2]
                  by_cases e1 : d < c
                  · rw [if_pos e1, if_pos e1]
                  · rw [if_neg e1, if_neg e2, if_neg e1, if_neg e2]
              | have p0 : (A k2 c && A c k2) = false := by
                  cases h1 : A c k2 with
                  | false => exact Bool.and_false _
                  | true =>
                    cases h2 : A k2 c with
                    | false => rfl
                    | true =>
                      have z1 := (hv _ hc _ hj2).2.2.mpr h1
                      have z2 := (hv _ hj2 _ hc).2.2.mpr h2
                      omega
                refine hR.cong (fun d hd => ?_)
                by_cases e1 : d < c
                · rw [if_pos e1, if_pos e1]
                · rw [if_neg e1, if_neg e1]
                  by_cases e2 : d = c
                  · rw [if_pos e2, if_pos e2, lowD, hpe]
                    try dsimp only
                    rw [p0, if_neg (by decide)]
                  · rw [if_neg e2, if_neg e2]
  have outer : ∀ (n c : Nat) (v : Int32) (y : XS), N - c < n → v = nI c → c ≤ N → RowIs x y lay.length N (fun d => if d < c then lst A d else 0) → Wx k (0 + 1) (0 + N) (lay ++ [.inr (0, N)]) a1 y 7 [(0, .ref (a1 qf)), (1, .ref (a1 lay.length)), (2, .int v)] [] := by
    intro n
    induction n with
    | zero => intro c v y h; omega
    | succ n ih =>
      intro c v y hn hv2 hc hR
      subst hv2
      refine xiload_n hk dX9_parts_7 rfl ?_
      refine xaload_n hk dX9_parts_8 rfl ?_
      refine xalen (v := nI N) hk dX9_parts_9 app_n (by decide) rfl ?_
      refine xicmp_ge hk 60 dX9_parts_10 (by decide) (fun h10 => ?_) (fun h10 => ?_)
      · rw [nI_leI (by omega) (by omega)] at h10
        obtain rfl : c = N := by omega
        refine xaload_n hk dX9_parts_60 rfl ?_
        refine xaretZ hk he dX9_parts_61 (Or.inr ⟨_, rfl⟩) ⟨by omega, by omega⟩ ?_
        exact ⟨rfl, rfl, ⟨fun j hj => h1 j (by omega), fun i hi _ j => hR.1 i hi j⟩, fun d hd => (hR.2 d hd).trans (by (try dsimp only); rw [if_pos hd])⟩
      · rw [nI_leI (by omega) (by omega)] at h10
        have hc2 : c < N := by omega
        refine xaload_n hk dX9_parts_13 rfl ?_
        refine xalen (v := nI N) hk dX9_parts_14 app_n (by decide) rfl ?_
        refine xiconst (v := 1) hk dX9_parts_15 (by decide) ?_
        refine xisub hk dX9_parts_16 ?_
        rw [tpI_sub]
        refine xistore_n hk dX9_parts_17 (by decide) ?_
        refine xsub [(0, _), (1, _), (2, _), (3, _)] rfl ?_
        refine inner c hc2 (fun y2 h2 => ih (c + 1) _ y2 (by omega) rfl (by omega) h2) N _ y rfl (Nat.le_refl _) (hR.cong (fun d hd => ?_))
        by_cases e1 : d < c
        · rw [if_pos e1, if_pos e1]
        · rw [if_neg e1, if_neg e1, Nat.sub_self]
          by_cases e2 : d = c
          · rw [if_pos e2]; rfl
          · rw [if_neg e2]
  refine xastore_n hk dX9_parts_4 (by decide) ?_
  refine xiconst (v := 0) hk dX9_parts_5 (by decide) ?_
  refine xistore_n hk dX9_parts_6 (by decide) ?_
  refine xsub [(0, _), (1, _), (2, _)] rfl ?_
  exact outer _ 0 _ _ (Nat.lt_succ_self _) rfl (by omega) ⟨fun i hi j => clr_ne (by omega) j, fun c hc => by rw [(clr_eq c).1]; rfl⟩
