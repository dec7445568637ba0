theorem kX9_45 : Cond.methodLink RX9 45 yX9_count ∈ GW := gw_mem 864 (by decide +kernel) (by decide +kernel)
theorem bX9_count : CBv yX9_count cX9_count 9 none 4 := ⟨⟨gw_mem 867 (by decide +kernel) (by decide +kernel), gw_mem 5 (by decide +kernel) (by decide +kernel), by decide +kernel, by decide⟩, gw_mem 866 (by decide +kernel) (by decide +kernel), gw_sel 24 (by decide +kernel) (by decide +kernel)⟩
/-! The count with more families to come -/
def CEA (x x' : XS) (F : Nat) (A : Nat → Bool) (nx qd qm qt : Nat) (mk : Nat → Nat) : Prop :=
  (∀ i j, i ≠ qd → i ≠ qm → i ≠ qt → x'.1 i j = x.1 i j) ∧ x'.2 = x.2 ∧ (∀ f, f < nx → x'.1 qd f = x.1 qd f) ∧ (∀ j, j < 2 + 2 * F → x'.1 qm j = nI (mk j + cN A F j)) ∧ ((mk 0 ≠ 0 ∨ cN A F 0 = 0) → ∀ f, x'.1 qt f = x.1 qt f) ∧ (mk 0 = 0 → cN A F 0 ≠ 0 → ∃ t, Best A (2 ^ F) t ∧ ∀ f, f < F → x'.1 qt f = b2i (!t.testBit f))
theorem CEA_0 {x : XS} {F nx qd qm qt : Nat} {mk : Nat → Nat} (h : ∀ j, j < 2 + 2 * F → x.1 qm j = nI (mk j)) : CEA x x F (fun _ => false) nx qd qm qt mk :=
  ⟨fun _ _ _ _ _ => rfl, rfl, fun _ _ => rfl, fun j hj => by rw [cN_none (fun _ _ => rfl), Nat.add_zero]; exact h j hj, fun _ _ => rfl, fun _ hne => absurd (cN_none (fun _ _ => rfl) 0) hne⟩
theorem CEA_step {x y y' : XS} {b : Bok} {m nx p' qd qm qt : Nat} {mk : Nat → Nat} {A W : Nat → Bool} {v : Int32} (ap : qd ≠ qm ∧ qd ≠ qt ∧ qm ≠ qt) (h1 : CEA x y (bF b) A nx qd qm qt mk) (h2 : CEnd (setI y qd nx v) y' b m (nx + 1) p' qd qm qt (fun j => mk j + cN A (bF b) j))
    (d1 : ∀ t, t < 2 ^ bF b → ¬ (A t = true ∧ Wn b m (nx + 1) p' t = true)) (d2 : ∀ t, t < 2 ^ bF b → W t = (A t || Wn b m (nx + 1) p' t)) (d3 : ∀ t u, A t = true → Wn b m (nx + 1) p' u = true → ahead t u) : CEA x y' (bF b) W nx qd qm qt mk := by
  obtain ⟨a1, a2, a3, a4, a5, a6⟩ := h1
  obtain ⟨c1, c2, c3, c4, c5, c6⟩ := h2
  have hor := cN_or d1 d2
  refine ⟨fun i j e1 e2 e3 => ?_, ?_, fun f hf => ?_, fun j hj => ?_, fun hz f => ?_, fun hz hne => ?_⟩
  · rw [c1 i j e1 e2 e3, rdI_ne e1]; exact a1 i j e1 e2 e3
  · rw [c2]; exact a2
  · rw [c3 f (by omega), rdI_nk (by omega)]; exact a3 f hf
  · rw [c4 j hj, hor j, Nat.add_assoc]
  · have hw := hor 0
    have z1 : mk 0 ≠ 0 ∨ cN A (bF b) 0 = 0 := by rcases hz with hz | hz; exact Or.inl hz; exact Or.inr (by omega)
    have z2 : (mk 0 + cN A (bF b) 0 ≠ 0) ∨ cN (Wn b m (nx + 1) p') (bF b) 0 = 0 := by rcases hz with hz | hz; exact Or.inl (by omega); exact Or.inr (by omega)
    rw [c5 z2 f, rdI_ne ap.2.1.symm]; exact a5 z1 f
  · have hw := hor 0
    by_cases hA : cN A (bF b) 0 = 0
    · obtain ⟨t, t1, t2⟩ := c6 (show mk 0 + cN A (bF b) 0 = 0 by omega) (by omega)
      have hA0 : ∀ t, t < 2 ^ bF b → A t = false := fb_ct_zero.mp (by unfold cN at hA; rw [if_pos rfl] at hA; exact hA)
      exact ⟨t, Best_cong (fun u hu => by rw [d2 u hu, hA0 u hu]; rfl) t1, t2⟩
    · obtain ⟨t, t1, t2⟩ := a6 hz hA
      refine ⟨t, Best_or d2 t1 (by unfold cN at hA; rw [if_pos rfl] at hA; exact hA) (fun u _ hB hAt => d3 t u hAt hB), fun f hf => ?_⟩
      rw [c5 (Or.inl (show mk 0 + cN A (bF b) 0 ≠ 0 by omega)) f, rdI_ne ap.2.1.symm]; exact t2 f hf
theorem cN_le {W : Nat → Bool} {F : Nat} (hF : F ≤ 5) : cN W F 0 ≤ 32 := by
  unfold cN
  rw [if_pos rfl]
  exact Nat.le_trans (fb_ct_le _ _) (small_p2 F hF)
set_option maxHeartbeats 4000000 in
set_option maxRecDepth 100000 in
theorem c_X9_count (D : Nat) : ∀ {g : Gx} {a : Nat → Nat} {x : XS} {lay : List Kd} {q : Nat} {b : Bok} {m dy ca qd qm qt nx p : Nat} {mk : Nat → Nat} (hL : SimL lay q b) (hW : BW b) (hX : SimX x q b m dy ca) (hm : m < 2 ^ 32) (hd : lay[qd]? = some (.inr (0, bF b))) (hmm : lay[qm]? = some (.inr (0, 2 + 2 * bF b))) (ht : lay[qt]? = some (.inr (0, bF b))) (ap : (qd ≠ qm ∧ qd ≠ qt ∧ qm ≠ qt) ∧ (∀ z, z = qd ∨ z = qm ∨ z = qt → ∀ i, q ≤ i → i < q + 3 + bS b + bM b → i ≠ z)) (hp : p < 2 ^ nx) (hdo : ∀ f, f < nx → x.1 qd f = b2i (!p.testBit f)) (hmk : ∀ j, j < 2 + 2 * bF b → x.1 qm j = nI (mk j)) (hM : mk 0 + 32 * 2 ^ D ≤ 2 ^ 20) (hnx : nx + D = bF b), Mx g yX9_count cX9_count 9 none (3 + D) 0 0 lay a x [.ref (a q), .ref (a qd), .int (nI nx), .ref (a qm), .ref (a qt)] (fun v x' => v = none ∧ CEnd x x' b m nx p qd qm qt mk) := by
  induction D with
  | zero => intro g a x lay q b m dy ca qd qm qt nx p mk hL hW hX hm hd hmm ht ap hp hdo hmk hM hnx; exact c_X9_count0 hL hW hX hm hd hmm ht ap hp hdo hmk hM hnx
  | succ D ih =>
  intro g a x lay q b m dy ca qd qm qt nx p mk hL hW hX hm hd hmm ht ap hp hdo hmk hM hnx
  refine Mx_of (by decide +kernel) (Nat.le_of_ble_eq_true rfl) ?_
  intro k hk he hg
  subst hg
  have hS := hW.2.1
  have hF := hW.1
  have hnF : nx ≤ bF b := by omega
  have look : ((∀ s, s < bS b → b1 b s / 2 < nx → b2 b s / 2 < nx → keptB (bk b s) (b1 b s) (b2 b s) (m.testBit s) p = true) → Wx k 0 0 lay a x 65 [(0, .ref (a q)), (1, .ref (a qd)), (2, .int (nI nx)), (3, .ref (a qm)), (4, .ref (a qt))] []) → ∀ (n j : Nat) (v : Int32), bS b - j < n → v = nI j → j ≤ bS b → (∀ s, s < j → b1 b s / 2 < nx → b2 b s / 2 < nx → keptB (bk b s) (b1 b s) (b2 b s) (m.testBit s) p = true) → Wx k 0 0 lay a x 14 [(0, .ref (a q)), (1, .ref (a qd)), (2, .int (nI nx)), (3, .ref (a qm)), (4, .ref (a qt)), (5, .ref (a (q + 1))), (6, .int (nI (bS b))), (7, .int v)] [] := by
    intro kk n
    induction n with
    | zero => intro j v h; omega
    | succ n ih =>
      intro j v hn hv hj hK
      subst hv
      refine xiload hk dX9_count_14 rfl ?_
      refine xiload hk dX9_count_16 rfl ?_
      refine xicmp_ge hk 65 dX9_count_18 (by decide) (fun h18 => ?_) (fun h18 => ?_)
      · rw [nI_leI (by omega) (by omega)] at h18
        obtain rfl : j = bS b := by omega
        refine xsub [(0, _), (1, _), (2, _), (3, _), (4, _)] rfl ?_
        exact kk hK
      · rw [nI_leI (by omega) (by omega)] at h18
        have hj2 : j < bS b := by omega
        have B1 : b1 b j < 20 := by have := (hW.2.2.1 j hj2).2.1; omega
        have B2 : b2 b j < 20 := by have := (hW.2.2.1 j hj2).2.2.1; omega
        refine xaload hk dX9_count_21 rfl ?_
        refine xiload hk dX9_count_23 rfl ?_
        refine xaald hk dX9_count_25 hL.2.1 (rows_in hj2 (by omega)) (rows_at hj2 (by omega)) ?_
        refine xastore hk dX9_count_26 (by decide) ?_
        refine xaload hk dX9_count_28 rfl ?_
        refine xiconst (v := 1) hk dX9_count_30 (by decide) ?_
        refine xiald hk dX9_count_31 (hL.2.2.2.1 j hj2) (show vp_in (nI 1) 4 from vp_in_nI (by decide) (by decide)) ?_
        rw [show (1 : Int32).toNatClampNeg = 1 from rfl, (hX.2.1 j hj2).2.1]
        refine xiconst (v := 2) hk dX9_count_32 (by decide) ?_
        refine xidiv hk dX9_count_33 (by decide) ?_
        rw [(half20b _ B1).1]
        refine xiload_n hk dX9_count_34 rfl ?_
        refine xicmp_ge hk 59 dX9_count_35 (by decide) (fun h35 => ?_) (fun h35 => ?_)
        · rw [nI_leI (by omega) (by omega)] at h35
          refine xiinc hk dX9_count_59 rfl (by decide) rfl ?_
          refine xgoto hk 14 dX9_count_62 (by decide) ?_
          refine xsub [(0, _), (1, _), (2, _), (3, _), (4, _), (5, _), (6, _), (7, _)] rfl ?_
          exact ih (j + 1) _ (by omega) (nI_inc j) (by omega) (fun s hs h1 h2 => by
            by_cases e : s = j
            · subst e; omega
            · exact hK s (by omega) h1 h2)
        · rw [nI_leI (by omega) (by omega)] at h35
          have h35 : b1 b j / 2 < nx := by omega
          refine xaload hk dX9_count_38 rfl ?_
          refine xiconst (v := 2) hk dX9_count_40 (by decide) ?_
          refine xiald hk dX9_count_41 (hL.2.2.2.1 j hj2) (show vp_in (nI 2) 4 from vp_in_nI (by decide) (by decide)) ?_
          rw [show (2 : Int32).toNatClampNeg = 2 from rfl, (hX.2.1 j hj2).2.2.1]
          refine xiconst (v := 2) hk dX9_count_42 (by decide) ?_
          refine xidiv hk dX9_count_43 (by decide) ?_
          rw [(half20b _ B2).1]
          refine xiload_n hk dX9_count_44 rfl ?_
          refine xicmp_ge hk 59 dX9_count_45 (by decide) (fun h45 => ?_) (fun h45 => ?_)
          · rw [nI_leI (by omega) (by omega)] at h45
            refine xiinc hk dX9_count_59 rfl (by decide) rfl ?_
            refine xgoto hk 14 dX9_count_62 (by decide) ?_
            refine xsub [(0, _), (1, _), (2, _), (3, _), (4, _), (5, _), (6, _), (7, _)] rfl ?_
            exact ih (j + 1) _ (by omega) (nI_inc j) (by omega) (fun s hs h1 h2 => by
              by_cases e : s = j
              · subst e; omega
              · exact hK s (by omega) h1 h2)
          · rw [nI_leI (by omega) (by omega)] at h45
            have h45 : b2 b j / 2 < nx := by omega
            refine xaload_n hk dX9_count_48 rfl ?_
            refine xaload hk dX9_count_49 rfl ?_
            refine xaload_n hk dX9_count_51 rfl ?_
            refine xcallV hk (q := q) (c_X9_isKept (r := q + 3 + j) (hL.2.2.2.1 j hj2) hd (hW.2.2.1 j hj2).1 B1 B2 (by omega) (by omega) (hX.2.1 j hj2) (hdo _ h35) (hdo _ h45)) bX9_isKept kX9_41 dX9_count_52 rfl ⟨_, _, _, _, hL.1, rfl⟩ rfl (by omega) ⟨by decide, by decide⟩ (Nat.le_of_ble_eq_true rfl) (det ?_)
            refine xif_ne hk 59 dX9_count_55 (by decide) (fun h55 => ?_) (fun h55 => ?_)
            · rw [b2i_t] at h55
              refine xiinc hk dX9_count_59 rfl (by decide) rfl ?_
              refine xgoto hk 14 dX9_count_62 (by decide) ?_
              refine xsub [(0, _), (1, _), (2, _), (3, _), (4, _), (5, _), (6, _), (7, _)] rfl ?_
              exact ih (j + 1) _ (by omega) (nI_inc j) (by omega) (fun s hs h1 h2 => by
                by_cases e : s = j
                · subst e; exact h55
                · exact hK s (by omega) h1 h2)
            · rw [b2i_0] at h55
              refine xvret hk he dX9_count_58 ⟨by decide, by decide⟩ ?_
              have dead := Wn_dead hW hm hj2 h35 h45 h55
              refine ⟨rfl, fun _ _ _ _ _ => rfl, rfl, fun _ _ => rfl, fun i hi => ?_, fun _ _ => rfl, fun _ hne => absurd (cN_none (fun t _ => dead t) 0) hne⟩
              rw [cN_none (fun t _ => dead t), Nat.add_zero]
              exact hmk i hi
  refine xaload_n hk dX9_count_0 rfl ?_
  refine xgetR (ci := 9) (f := 1) (j := q + 1) hk dX9_count_1 ⟨rfl, by decide, _, hL.1, rfl⟩ kX9_9 ?_
  refine xastore hk dX9_count_4 (by decide) ?_
  refine xaload hk dX9_count_6 rfl ?_
  refine xalenR (v := nI (bS b)) hk dX9_count_8 hL.2.1 (by rw [rows_len]; rfl) ?_
  refine xistore hk dX9_count_9 (by decide) ?_
  refine xiconst (v := 0) hk dX9_count_11 (by decide) ?_
  refine xistore hk dX9_count_12 (by decide) ?_
  refine xsub [(0, _), (1, _), (2, _), (3, _), (4, _), (5, _), (6, _), (7, _)] rfl ?_
  refine look (fun hK => ?_) _ 0 _ (Nat.lt_succ_self _) rfl (by omega) (fun s hs => absurd hs (by omega))
  have hnF : nx < bF b := by omega
  have hB : ∀ (w p' : Nat) (y : XS) (A : Nat → Bool), w < 2 → CEA x y (bF b) A nx qd qm qt mk → p' < 2 ^ (nx + 1) → (∀ f, f < nx → p'.testBit f = p.testBit f) → b2i (!p'.testBit nx) = nI w → cN A (bF b) 0 ≤ 32 → (∀ y', CEnd (setI y qd nx (nI w)) y' b m (nx + 1) p' qd qm qt (fun j => mk j + cN A (bF b) j) → Wx k 0 0 lay a y' 76 [(0, .ref (a q)), (1, .ref (a qd)), (2, .int (nI nx)), (3, .ref (a qm)), (4, .ref (a qt)), (5, .int (nI (w + 1)))] []) → Wx k 0 0 lay a y 76 [(0, .ref (a q)), (1, .ref (a qd)), (2, .int (nI nx)), (3, .ref (a qm)), (4, .ref (a qt)), (5, .int (nI w))] [] := by
    intro w p' y A hw hA hp' hpp hpn h32 kk
    have hp2 := Nat.one_le_two_pow (n := D)
    have e2 : 2 ^ (D + 1) = 2 * 2 ^ D := by rw [Nat.pow_succ]; omega
    have hXy : SimX (setI y qd nx (nI w)) q b m dy ca := (hX.of (fun i j h1 h2 => hA.1 i j (ap.2 qd (Or.inl rfl) i h1 h2) (ap.2 qm (Or.inr (Or.inl rfl)) i h1 h2) (ap.2 qt (Or.inr (Or.inr rfl)) i h1 h2))).outI (ap.2 qd (Or.inl rfl))
    refine xiload hk dX9_count_76 rfl ?_
    refine xiconst (v := 2) hk dX9_count_78 (by decide) ?_
    refine xicmp_ge hk 104 dX9_count_79 (by decide) (fun h79 => ?_) (fun h79 => ?_)
    · rw [show (2 : Int32) = nI 2 from rfl, nI_leI (by decide) (by omega)] at h79
      omega
    · refine xaload_n hk dX9_count_82 rfl ?_
      refine xiload_n hk dX9_count_83 rfl ?_
      refine xiload hk dX9_count_84 rfl ?_
      refine xiast hk dX9_count_86 hd (vp_in_nI (by omega) (by omega)) ?_
      rw [nI_clamp (show nx < 2 ^ 31 by omega)]
      refine xaload_n hk dX9_count_87 rfl ?_
      refine xaload_n hk dX9_count_88 rfl ?_
      refine xiload_n hk dX9_count_89 rfl ?_
      refine xiconst (v := 1) hk dX9_count_90 (by decide) ?_
      refine xiadd hk dX9_count_91 ?_
      rw [nI_1]
      refine xaload_n hk dX9_count_92 rfl ?_
      refine xaload hk dX9_count_93 rfl ?_
      refine xcallV hk (q := q) (ih (nx := nx + 1) (p := p') (mk := fun j => mk j + cN A (bF b) j) hL hW hXy hm hd hmm ht ap hp' (fun f hf => ?_) (fun j hj => ?_) ?_ (by omega)) bX9_count kX9_45 dX9_count_95 rfl ⟨_, _, _, _, hL.1, rfl⟩ rfl (by omega) ⟨by decide, by decide⟩ (Nat.le_of_ble_eq_true rfl) (fun v x1 hv => ?_)
      · rw [rdI]
        by_cases e : f = nx
        · rw [if_pos ⟨rfl, e⟩, e, hpn]
        · rw [if_neg (fun z => e z.2), hA.2.2.1 f (by omega), hdo f (by omega), hpp f (by omega)]
      · rw [rdI_ne ap.1.1.symm]; exact hA.2.2.2.1 j hj
      · omega
      obtain ⟨rfl, hv⟩ := hv
      refine xiinc hk dX9_count_98 rfl (by decide) rfl ?_
      refine xgoto hk 76 dX9_count_101 (by decide) ?_
      refine xsub [(0, _), (1, _), (2, _), (3, _), (4, _), (5, _)] rfl ?_
      rw [nI_inc]
      exact kk x1 hv
  obtain hs1 := Wn_split (b := b) (m := m) hp
  have hpa : p + 2 ^ nx < 2 ^ (nx + 1) := by rw [Nat.pow_succ]; omega
  have hpb : p < 2 ^ (nx + 1) := by rw [Nat.pow_succ]; omega
  refine xiload_n hk dX9_count_65 rfl ?_
  refine xaload_n hk dX9_count_66 rfl ?_
  refine xgetI (ci := 9) (f := 0) hk dX9_count_67 ⟨rfl, by decide, _, hL.1, rfl⟩ kX9_19 ?_
  rw [hX.1.1]
  refine xicmp_ge hk 105 dX9_count_70 (by decide) (fun h70 => ?_) (fun h70 => ?_)
  · rw [nI_leI (by omega) (by omega)] at h70
    omega
  · refine xiconst (v := 0) hk dX9_count_73 (by decide) ?_
    refine xistore hk dX9_count_74 (by decide) ?_
    refine xsub [(0, _), (1, _), (2, _), (3, _), (4, _), (5, _)] rfl ?_
    refine hB 0 (p + 2 ^ nx) x (fun _ => false) (by decide) (CEA_0 hmk) hpa (fun f hf => by rw [bit_add hp, if_neg (by omega)]) (by rw [bit_add hp, if_pos rfl]; rfl) (cN_le hF.2) (fun y1 h1 => ?_)
    have g1 := CEA_step (W := Wn b m (nx + 1) (p + 2 ^ nx)) ap.1 (CEA_0 hmk) h1 (fun _ _ z => by cases z.1) (fun _ _ => rfl) (fun _ _ z => by cases z)
    refine hB 1 p y1 (Wn b m (nx + 1) (p + 2 ^ nx)) (by decide) g1 hpb (fun _ _ => rfl) (by rw [bit_top hp]; rfl) (cN_le hF.2) (fun y2 h2 => ?_)
    have g2 := CEA_step (W := Wn b m nx p) ap.1 g1 h2 (fun t _ => (hs1 t).2) (fun t _ => (hs1 t).1) (fun t u z1 z2 => Wn_ahead hp z1 z2)
    refine xiload hk dX9_count_76 rfl ?_
    refine xiconst (v := 2) hk dX9_count_78 (by decide) ?_
    refine xicmp_ge hk 104 dX9_count_79 (by decide) (fun h79 => ?_) (fun h79 => ?_)
    · refine xvret hk he dX9_count_104 ⟨by decide, by decide⟩ ?_
      exact ⟨rfl, g2⟩
    · rw [show (2 : Int32) = nI 2 from rfl, show ((0 + 1 + 1 : Nat)) = 2 from rfl, nI_leI (by decide) (by decide)] at h79
      exact absurd (Nat.le_refl 2) h79
