theorem kX9_19 : Cond.fieldLink RX9 19 "FeudBookLaw$Sim" "families" "I" ∈ GW := gw_mem 1142 (by decide +kernel) (by decide +kernel)
theorem kX9_41 : Cond.methodLink RX9 41 yX9_isKept ∈ GW := gw_mem 868 (by decide +kernel) (by decide +kernel)
theorem bX9_isKept : CBv yX9_isKept cX9_isKept 5 (some .boolean) 2 := ⟨⟨gw_mem 871 (by decide +kernel) (by decide +kernel), gw_mem 5 (by decide +kernel) (by decide +kernel), by decide +kernel, by decide⟩, gw_mem 870 (by decide +kernel) (by decide +kernel), gw_sel 25 (by decide +kernel) (by decide +kernel)⟩
/-! The count of peaces, family by family -/
theorem SimX.outI {x : XS} {q z j : Nat} {v : Int32} {b : Bok} {m dy ca : Nat} (h : SimX x q b m dy ca) (e : ∀ i, q ≤ i → i < q + 3 + bS b + bM b → i ≠ z) : SimX (setI x z j v) q b m dy ca :=
  h.of (fun i j' h1 h2 => rdI_ne (e i h1 h2))
theorem one_sub (u : Bool) : (1 : Int32) - b2i (!u) = b2i u := by cases u <;> rfl
theorem small_p2 : ∀ F, F ≤ 5 → 2 ^ F ≤ 32 := by decide
/-- a peace is counted: the first f families -/
def mkf (mk : Nat → Nat) (p f j : Nat) : Nat := mk j + (if j = 0 then 1 else if j = 1 then fb_ct p.testBit f else if (j - 2) / 2 < f ∧ holdsP p (j - 2) = true then 1 else 0)
theorem ride_F {F p : Nat} (hp : p < 2 ^ F) (hF : F ≤ 10) : fb_ct p.testBit 10 = fb_ct p.testBit F := by
  rw [show (10 : Nat) = F + (10 - F) by omega, fb_ct_split]
  have : fb_ct (fun k => p.testBit (F + k)) (10 - F) = 0 := fb_ct_zero.mpr (fun k _ => Nat.testBit_lt_two_pow (Nat.lt_of_lt_of_le hp (Nat.pow_le_pow_right (by decide) (by omega))))
  omega
theorem mkf_end {mk : Nat → Nat} {F p j : Nat} {W : Nat → Bool} (hF : F ≤ 10) (hp : p < 2 ^ F) (h : ∀ t, t < 2 ^ F → W t = decide (t = p)) (hj : j < 2 + 2 * F) : mkf mk p F j = mk j + cN W F j := by
  rw [cN_one hp h, ride_F hp hF]
  unfold mkf
  by_cases j0 : j = 0
  · rw [if_pos j0, if_pos j0]
  by_cases j1 : j = 1
  · rw [if_neg j0, if_neg j0, if_pos j1, if_pos j1]
  rw [if_neg j0, if_neg j0, if_neg j1, if_neg j1]
  have : (j - 2) / 2 < F := by omega
  cases holdsP p (j - 2) <;> simp [this]
def sideN (p f : Nat) : Nat := if p.testBit f then 0 else 1
theorem side_b (p f : Nat) : b2i (!p.testBit f) = nI (sideN p f) := by unfold sideN; cases p.testBit f <;> rfl
theorem side_lt (p f : Nat) : sideN p f < 2 := by unfold sideN; split <;> omega
theorem side_holds (p f i : Nat) (hi : i < 2) : holdsP p (2 * f + i) = decide (i = sideN p f) := by
  unfold holdsP sideN
  have e1 : (2 * f + i) / 2 = f := by omega
  have e2 : (2 * f + i) % 2 = i := by omega
  rw [e1, e2]
  have : i = 0 ∨ i = 1 := by omega
  rcases this with rfl | rfl <;> cases p.testBit f <;> rfl
theorem mkf_step {mk : Nat → Nat} {p f : Nat} {v : Nat → Int32} {N : Nat} (h : ∀ j, j < N → v j = nI (mkf mk p f j)) (h0 : ∀ j, j < N → v j = nI (mkf mk p f j)) (hN : 2 + 2 * f + 2 ≤ N) : ∀ j, j < N → (if j = 2 + 2 * f + sideN p f then nI (mkf mk p f (2 + 2 * f + sideN p f)) + 1 else if j = 1 then nI (mkf mk p f 1) + b2i (p.testBit f) else v j) = nI (mkf mk p (f + 1) j) := by
  intro j hj
  have hs := side_lt p f
  by_cases e : j = 2 + 2 * f + sideN p f
  · rw [if_pos e, nI_1, e]
    congr 1
    unfold mkf
    have hh : holdsP p (2 + 2 * f + sideN p f - 2) = true := by
      rw [show 2 + 2 * f + sideN p f - 2 = 2 * f + sideN p f by omega, side_holds p f _ hs, decide_eq_true rfl]
    rw [if_neg (by omega), if_neg (by omega), if_neg (by omega), if_neg (by omega), if_neg (by omega), if_pos ⟨by omega, hh⟩]
  rw [if_neg e]
  by_cases j1 : j = 1
  · subst j1
    rw [if_pos rfl]
    unfold mkf
    rw [if_neg (by decide), if_pos rfl, if_neg (by decide), if_pos rfl, fb_ct_succ]
    cases p.testBit f
    · exact nI_add _ 0
    · exact nI_add _ 1
  · rw [if_neg j1, h j hj]
    congr 1
    unfold mkf
    by_cases j0 : j = 0
    · rw [if_pos j0, if_pos j0]
    rw [if_neg j0, if_neg j1, if_neg j0, if_neg j1]
    have hiff : ((j - 2) / 2 < f ∧ holdsP p (j - 2) = true) ↔ ((j - 2) / 2 < f + 1 ∧ holdsP p (j - 2) = true) := by
      constructor
      · exact fun z => ⟨by omega, z.2⟩
      · rintro ⟨z1, z2⟩
        refine ⟨?_, z2⟩
        by_cases hl : (j - 2) / 2 < f
        · exact hl
        · exfalso
          have hj2 : j - 2 = 2 * f + (j - 2) % 2 := by omega
          rw [hj2, side_holds p f _ (by omega), decide_eq_true_eq] at z2
          omega
    by_cases hc : (j - 2) / 2 < f ∧ holdsP p (j - 2) = true
    · rw [if_pos hc, if_pos (hiff.mp hc)]
    · rw [if_neg hc, if_neg (fun z => hc (hiff.mpr z))]
set_option maxHeartbeats 4000000 in
set_option maxRecDepth 100000 in
theorem c_X9_count0 {g : Gx} {a : Nat → Nat} {x : XS} {lay : List Kd} {q : Nat} {b : Bok} {m dy ca qd qm qt nx p : Nat} {mk : Nat → Nat} (hL : SimL lay q b) (hW : BW b) (hX : SimX x q b m dy ca) (hm : m < 2 ^ 32) (hd : lay[qd]? = some (.inr (0, bF b))) (hmm : lay[qm]? = some (.inr (0, 2 + 2 * bF b))) (ht : lay[qt]? = some (.inr (0, bF b))) (ap : (qd ≠ qm ∧ qd ≠ qt ∧ qm ≠ qt) ∧ (∀ z, z = qd ∨ z = qm ∨ z = qt → ∀ i, q ≤ i → i < q + 3 + bS b + bM b → i ≠ z)) (hp : p < 2 ^ nx) (hdo : ∀ f, f < nx → x.1 qd f = b2i (!p.testBit f)) (hmk : ∀ j, j < 2 + 2 * bF b → x.1 qm j = nI (mk j)) (hM : mk 0 + 32 * 2 ^ 0 ≤ 2 ^ 20) (hnx : nx = bF b) : Mx g yX9_count cX9_count 9 none 3 0 0 lay a x [.ref (a q), .ref (a qd), .int (nI nx), .ref (a qm), .ref (a qt)] (fun v x' => v = none ∧ CEnd x x' b m nx p qd qm qt mk) := by
  refine Mx_of (by decide +kernel) (Nat.le_of_ble_eq_true rfl) ?_
  intro k hk he hg
  subst hg
  have hS := hW.2.1
  have hF := hW.1
  have hnF : nx ≤ bF b := by omega
  have look : ((∀ s, s < bS b → b1 b s / 2 < nx → b2 b s / 2 < nx → keptB (bk b s) (b1 b s) (b2 b s) (m.testBit s) p = true) → Wx k 0 0 lay a x 65 [(0, .ref (a q)), (1, .ref (a qd)), (2, .int (nI nx)), (3, .ref (a qm)), (4, .ref (a qt))] []) → ∀ (n j : Nat) (v : Int32), bS b - j < n → v = nI j → j ≤ bS b → (∀ s, s < j → b1 b s / 2 < nx → b2 b s / 2 < nx → keptB (bk b s) (b1 b s) (b2 b s) (m.testBit s) p = true) → Wx k 0 0 lay a x 14 [(0, .ref (a q)), (1, .ref (a qd)), (2, .int (nI nx)), (3, .ref (a qm)), (4, .ref (a qt)), (5, .ref (a (q + 1))), (6, .int (nI (bS b))), (7, .int v)] [] := by
    intro kk n
    induction n with
    | zero => intro j v h; omega
    | succ n ih =>
      intro j v hn hv hj hK
      subst hv
      refine xiload hk dX9_count_14 rfl ?_
      refine xiload hk dX9_count_16 rfl ?_
      refine xicmp_ge hk 65 dX9_count_18 (by decide) (fun h18 => ?_) (fun h18 => ?_)
      · rw [nI_leI (by omega) (by omega)] at h18
        obtain rfl : j = bS b := by omega
        refine xsub [(0, _), (1, _), (2, _), (3, _), (4, _)] rfl ?_
        exact kk hK
      · rw [nI_leI (by omega) (by omega)] at h18
        have hj2 : j < bS b := by omega
        have B1 : b1 b j < 20 := by have := (hW.2.2.1 j hj2).2.1; omega
        have B2 : b2 b j < 20 := by have := (hW.2.2.1 j hj2).2.2.1; omega
        refine xaload hk dX9_count_21 rfl ?_
        refine xiload hk dX9_count_23 rfl ?_
        refine xaald hk dX9_count_25 hL.2.1 (rows_in hj2 (by omega)) (rows_at hj2 (by omega)) ?_
        refine xastore hk dX9_count_26 (by decide) ?_
        refine xaload hk dX9_count_28 rfl ?_
        refine xiconst (v := 1) hk dX9_count_30 (by decide) ?_
        refine xiald hk dX9_count_31 (hL.2.2.2.1 j hj2) (show vp_in (nI 1) 4 from vp_in_nI (by decide) (by decide)) ?_
        rw [show (1 : Int32).toNatClampNeg = 1 from rfl, (hX.2.1 j hj2).2.1]
        refine xiconst (v := 2) hk dX9_count_32 (by decide) ?_
        refine xidiv hk dX9_count_33 (by decide) ?_
        rw [(half20b _ B1).1]
        refine xiload_n hk dX9_count_34 rfl ?_
        refine xicmp_ge hk 59 dX9_count_35 (by decide) (fun h35 => ?_) (fun h35 => ?_)
        · rw [nI_leI (by omega) (by omega)] at h35
          refine xiinc hk dX9_count_59 rfl (by decide) rfl ?_
          refine xgoto hk 14 dX9_count_62 (by decide) ?_
          refine xsub [(0, _), (1, _), (2, _), (3, _), (4, _), (5, _), (6, _), (7, _)] rfl ?_
          exact ih (j + 1) _ (by omega) (nI_inc j) (by omega) (fun s hs h1 h2 => by
            by_cases e : s = j
            · subst e; omega
            · exact hK s (by omega) h1 h2)
        · rw [nI_leI (by omega) (by omega)] at h35
          have h35 : b1 b j / 2 < nx := by omega
          refine xaload hk dX9_count_38 rfl ?_
          refine xiconst (v := 2) hk dX9_count_40 (by decide) ?_
          refine xiald hk dX9_count_41 (hL.2.2.2.1 j hj2) (show vp_in (nI 2) 4 from vp_in_nI (by decide) (by decide)) ?_
          rw [show (2 : Int32).toNatClampNeg = 2 from rfl, (hX.2.1 j hj2).2.2.1]
          refine xiconst (v := 2) hk dX9_count_42 (by decide) ?_
          refine xidiv hk dX9_count_43 (by decide) ?_
          rw [(half20b _ B2).1]
          refine xiload_n hk dX9_count_44 rfl ?_
          refine xicmp_ge hk 59 dX9_count_45 (by decide) (fun h45 => ?_) (fun h45 => ?_)
          · rw [nI_leI (by omega) (by omega)] at h45
            refine xiinc hk dX9_count_59 rfl (by decide) rfl ?_
            refine xgoto hk 14 dX9_count_62 (by decide) ?_
            refine xsub [(0, _), (1, _), (2, _), (3, _), (4, _), (5, _), (6, _), (7, _)] rfl ?_
            exact ih (j + 1) _ (by omega) (nI_inc j) (by omega) (fun s hs h1 h2 => by
              by_cases e : s = j
              · subst e; omega
              · exact hK s (by omega) h1 h2)
          · rw [nI_leI (by omega) (by omega)] at h45
            have h45 : b2 b j / 2 < nx := by omega
            refine xaload_n hk dX9_count_48 rfl ?_
            refine xaload hk dX9_count_49 rfl ?_
            refine xaload_n hk dX9_count_51 rfl ?_
            refine xcallV hk (q := q) (c_X9_isKept (r := q + 3 + j) (hL.2.2.2.1 j hj2) hd (hW.2.2.1 j hj2).1 B1 B2 (by omega) (by omega) (hX.2.1 j hj2) (hdo _ h35) (hdo _ h45)) bX9_isKept kX9_41 dX9_count_52 rfl ⟨_, _, _, _, hL.1, rfl⟩ rfl (by omega) ⟨by decide, by decide⟩ (Nat.le_of_ble_eq_true rfl) (det ?_)
            refine xif_ne hk 59 dX9_count_55 (by decide) (fun h55 => ?_) (fun h55 => ?_)
            · rw [b2i_t] at h55
              refine xiinc hk dX9_count_59 rfl (by decide) rfl ?_
              refine xgoto hk 14 dX9_count_62 (by decide) ?_
              refine xsub [(0, _), (1, _), (2, _), (3, _), (4, _), (5, _), (6, _), (7, _)] rfl ?_
              exact ih (j + 1) _ (by omega) (nI_inc j) (by omega) (fun s hs h1 h2 => by
                by_cases e : s = j
                · subst e; exact h55
                · exact hK s (by omega) h1 h2)
            · rw [b2i_0] at h55
              refine xvret hk he dX9_count_58 ⟨by decide, by decide⟩ ?_
              have dead := Wn_dead hW hm hj2 h35 h45 h55
              refine ⟨rfl, fun _ _ _ _ _ => rfl, rfl, fun _ _ => rfl, fun i hi => ?_, fun _ _ => rfl, fun _ hne => absurd (cN_none (fun t _ => dead t) 0) hne⟩
              rw [cN_none (fun t _ => dead t), Nat.add_zero]
              exact hmk i hi
  refine xaload_n hk dX9_count_0 rfl ?_
  refine xgetR (ci := 9) (f := 1) (j := q + 1) hk dX9_count_1 ⟨rfl, by decide, _, hL.1, rfl⟩ kX9_9 ?_
  refine xastore hk dX9_count_4 (by decide) ?_
  refine xaload hk dX9_count_6 rfl ?_
  refine xalenR (v := nI (bS b)) hk dX9_count_8 hL.2.1 (by rw [rows_len]; rfl) ?_
  refine xistore hk dX9_count_9 (by decide) ?_
  refine xiconst (v := 0) hk dX9_count_11 (by decide) ?_
  refine xistore hk dX9_count_12 (by decide) ?_
  refine xsub [(0, _), (1, _), (2, _), (3, _), (4, _), (5, _), (6, _), (7, _)] rfl ?_
  refine look (fun hK => ?_) _ 0 _ (Nat.lt_succ_self _) rfl (by omega) (fun s hs => absurd hs (by omega))
  have hxF : nx = bF b := by omega
  subst hxF
  have hpe : ∀ s, s < bS b → keptB (bk b s) (b1 b s) (b2 b s) (m.testBit s) p = true := fun s hs => hK s hs (by have := (hW.2.2.1 s hs).2.1; omega) (by have := (hW.2.2.1 s hs).2.2.1; omega)
  have hWl := Wn_leaf hW hm hp hpe
  have sum : ∀ (y0 : XS), (∀ i j, i ≠ qt → y0.1 i j = x.1 i j) → y0.2 = x.2 → (mk 0 ≠ 0 → ∀ f, y0.1 qt f = x.1 qt f) → (mk 0 = 0 → ∀ f, f < bF b → y0.1 qt f = x.1 qd f) → Wx k 0 0 lay a y0 138 [(0, .ref (a q)), (1, .ref (a qd)), (2, .int (nI (bF b))), (3, .ref (a qm)), (4, .ref (a qt))] [] := by
    intro y0 hy1 hy2 hy3 hy4
    have loop : ∀ (n f : Nat) (v : Int32) (y : XS), bF b - f < n → v = nI f → f ≤ bF b → (∀ i j, i ≠ qm → y.1 i j = y0.1 i j) → y.2 = y0.2 → (∀ j, j < 2 + 2 * bF b → y.1 qm j = nI (mkf mk p f j)) → Wx k 0 0 lay a y 148 [(0, .ref (a q)), (1, .ref (a qd)), (3, .ref (a qm)), (5, .int v)] [] := by
      intro n
      induction n with
      | zero => intro f v y h; omega
      | succ n ih =>
        intro f v y hn hv hf hy5 hy6 hy7
        subst hv
        have hXy : SimX y q b m dy ca := hX.of (fun i j h1 h2 => by rw [hy5 _ _ (ap.2 qm (Or.inr (Or.inl rfl)) i h1 h2), hy1 _ _ (ap.2 qt (Or.inr (Or.inr rfl)) i h1 h2)])
        have hdy : ∀ f, f < bF b → y.1 qd f = b2i (!p.testBit f) := fun f hf => by rw [hy5 _ _ ap.1.1, hy1 _ _ ap.1.2.1]; exact hdo f hf
        refine xiload hk dX9_count_148 rfl ?_
        refine xaload_n hk dX9_count_150 rfl ?_
        refine xgetI (ci := 9) (f := 0) hk dX9_count_151 ⟨rfl, by decide, _, hL.1, rfl⟩ kX9_19 ?_
        rw [hXy.1.1]
        refine xicmp_ge hk 192 dX9_count_154 (by decide) (fun h154 => ?_) (fun h154 => ?_)
        · rw [nI_leI (by omega) (by omega)] at h154
          obtain rfl : f = bF b := by omega
          refine xvret hk he dX9_count_192 ⟨by decide, by decide⟩ ?_
          have hc0 : cN (Wn b m (bF b) p) (bF b) 0 ≠ 0 := by rw [cN_one hp hWl, if_pos rfl]; decide
          refine ⟨rfl, fun i j h1 h2 h3 => by rw [hy5 _ _ h2, hy1 _ _ h3], hy6.trans hy2, fun f hf => by rw [hy5 _ _ ap.1.1, hy1 _ _ ap.1.2.1], fun j hj => by rw [hy7 j hj, mkf_end (by omega) hp hWl hj], fun hz f => ?_, fun hz _ => ⟨p, ?_, fun f hf => ?_⟩⟩
          · rcases hz with hz | hz
            · rw [hy5 _ _ ap.1.2.2.symm]; exact hy3 hz f
            · exact absurd hz hc0
          · exact Or.inr ⟨hp, by rw [hWl p hp]; exact decide_eq_true rfl, fun u hu hu2 => Or.inl (by rw [hWl u hu] at hu2; exact of_decide_eq_true hu2)⟩
          · rw [hy5 _ _ ap.1.2.2.symm, hy4 hz f hf]; exact hdo f hf
        · rw [nI_leI (by omega) (by omega)] at h154
          have hf2 : f < bF b := by omega
          refine xaload_n hk dX9_count_157 rfl ?_
          refine xiconst (v := 1) hk dX9_count_158 (by decide) ?_
          refine xdup2 hk dX9_count_159 rfl rfl ?_
          refine xiald hk dX9_count_160 hmm (show vp_in (nI 1) _ from vp_in_nI (by omega) (by omega)) ?_
          refine xiconst (v := 1) hk dX9_count_161 (by decide) ?_
          refine xaload_n hk dX9_count_162 rfl ?_
          refine xiload hk dX9_count_163 rfl ?_
          refine xiald hk dX9_count_165 hd (vp_in_nI (by omega) (by omega)) ?_
          rw [nI_clamp (show f < 2 ^ 31 by omega), hdy f hf2]
          refine xisub hk dX9_count_166 ?_
          rw [one_sub]
          refine xiadd hk dX9_count_167 ?_
          refine xiast hk dX9_count_168 hmm (show vp_in (nI 1) _ from vp_in_nI (by omega) (by omega)) ?_
          rw [show (1 : Int32).toNatClampNeg = 1 from rfl]
          refine xaload_n hk dX9_count_169 rfl ?_
          refine xiconst (v := 2) hk dX9_count_170 (by decide) ?_
          refine xiconst (v := 2) hk dX9_count_171 (by decide) ?_
          refine xiload hk dX9_count_172 rfl ?_
          refine ximul hk dX9_count_174 ?_
          refine xiadd hk dX9_count_175 ?_
          refine xaload_n hk dX9_count_176 rfl ?_
          refine xiload hk dX9_count_177 rfl ?_
          refine xiald hk dX9_count_179 hd (vp_in_nI (by omega) (by omega)) ?_
          rw [nI_clamp (show f < 2 ^ 31 by omega), rdI_ne ap.1.1, hdy f hf2, side_b]
          refine xiadd hk dX9_count_180 ?_
          rw [show (2 : Int32) + 2 * nI f + nI (sideN p f) = nI (2 + 2 * f + sideN p f) by rw [show (2 : Int32) * nI f = nI (2 * f) from two_nI f, show (2 : Int32) = nI 2 from rfl, nI_add, nI_add]]
          have hs2 := side_lt p f
          refine xdup2 hk dX9_count_181 rfl rfl ?_
          refine xiald hk dX9_count_182 hmm (vp_in_nI (by omega) (by omega)) ?_
          rw [nI_clamp (show 2 + 2 * f + sideN p f < 2 ^ 31 by omega)]
          refine xiconst (v := 1) hk dX9_count_183 (by decide) ?_
          refine xiadd hk dX9_count_184 ?_
          refine xiast hk dX9_count_185 hmm (vp_in_nI (by omega) (by omega)) ?_
          rw [nI_clamp (show 2 + 2 * f + sideN p f < 2 ^ 31 by omega)]
          refine xiinc hk dX9_count_186 rfl (by decide) rfl ?_
          refine xgoto hk 148 dX9_count_189 (by decide) ?_
          refine xsub [(0, _), (1, _), (3, _), (5, _)] rfl ?_
          refine ih (f + 1) _ _ (by omega) (nI_inc f) (by omega) (fun i j hi => ?_) ?_ ?_
          · rw [rdI_ne hi, rdI_ne hi]; exact hy5 i j hi
          · exact hy6
          · intro j hj
            rw [rdI, rdI, rdI]
            rw [← mkf_step (mk := mk) hy7 hy7 (by omega) j hj]
            have hs2 := side_lt p f
            simp only [true_and]
            by_cases e1 : j = 2 + 2 * f + sideN p f
            · rw [if_pos e1, if_pos e1, if_neg (by omega), hy7 _ (by omega)]
            · rw [if_neg e1, if_neg e1]
              by_cases e2 : j = 1
              · rw [if_pos e2, if_pos e2, hy7 1 (by omega)]
              · rw [if_neg e2, if_neg e2]
    refine xaload_n hk dX9_count_138 rfl ?_
    refine xiconst (v := 0) hk dX9_count_139 (by decide) ?_
    refine xdup2 hk dX9_count_140 rfl rfl ?_
    refine xiald hk dX9_count_141 hmm (show vp_in (nI 0) _ from vp_in_nI (by omega) (by omega)) ?_
    rw [show (0 : Int32).toNatClampNeg = 0 from rfl]
    refine xiconst (v := 1) hk dX9_count_142 (by decide) ?_
    refine xiadd hk dX9_count_143 ?_
    refine xiast hk dX9_count_144 hmm (show vp_in (nI 0) _ from vp_in_nI (by omega) (by omega)) ?_
    rw [show (0 : Int32).toNatClampNeg = 0 from rfl]
    refine xiconst (v := 0) hk dX9_count_145 (by decide) ?_
    refine xistore hk dX9_count_146 (by decide) ?_
    refine xsub [(0, _), (1, _), (3, _), (5, _)] rfl ?_
    refine loop _ 0 _ _ (Nat.lt_succ_self _) rfl (by omega) (fun i j hi => rdI_ne hi) rfl (fun j hj => ?_)
    rw [rdI]
    simp only [true_and]
    unfold mkf
    by_cases j0 : j = 0
    · subst j0; rw [if_pos rfl, if_pos rfl, hy1 _ _ ap.1.2.2, hmk 0 (by omega), nI_1]
    · rw [if_neg j0, hy1 _ _ ap.1.2.2, hmk j hj, if_neg j0]
      by_cases j1 : j = 1
      · rw [if_pos j1]; rfl
      · rw [if_neg j1, if_neg (fun z => absurd z.1 (by omega))]; rfl
  have told : ∀ (n f : Nat) (v : Int32) (y : XS), bF b - f < n → v = nI f → f ≤ bF b → (∀ i j, i ≠ qt → y.1 i j = x.1 i j) → y.2 = x.2 → mk 0 = 0 → (∀ j, j < f → y.1 qt j = x.1 qd j) → Wx k 0 0 lay a y 114 [(0, .ref (a q)), (1, .ref (a qd)), (2, .int (nI (bF b))), (3, .ref (a qm)), (4, .ref (a qt)), (5, .int v)] [] := by
    intro n
    induction n with
    | zero => intro f v y h; omega
    | succ n ih =>
      intro f v y hn hv hf hy1 hy2 hz hy4
      subst hv
      have hXy : SimX y q b m dy ca := hX.of (fun i j h1 h2 => hy1 _ _ (ap.2 qt (Or.inr (Or.inr rfl)) i h1 h2))
      refine xiload hk dX9_count_114 rfl ?_
      refine xaload_n hk dX9_count_116 rfl ?_
      refine xgetI (ci := 9) (f := 0) hk dX9_count_117 ⟨rfl, by decide, _, hL.1, rfl⟩ kX9_19 ?_
      rw [hXy.1.1]
      refine xicmp_ge hk 138 dX9_count_120 (by decide) (fun h120 => ?_) (fun h120 => ?_)
      · rw [nI_leI (by omega) (by omega)] at h120
        obtain rfl : f = bF b := by omega
        refine xsub [(0, _), (1, _), (2, _), (3, _), (4, _)] rfl ?_
        exact sum y hy1 hy2 (fun z => absurd hz z) (fun _ f hf => hy4 f hf)
      · rw [nI_leI (by omega) (by omega)] at h120
        have hf2 : f < bF b := by omega
        refine xaload hk dX9_count_123 rfl ?_
        refine xiload hk dX9_count_125 rfl ?_
        refine xaload_n hk dX9_count_127 rfl ?_
        refine xiload hk dX9_count_128 rfl ?_
        refine xiald hk dX9_count_130 hd (vp_in_nI (by omega) (by omega)) ?_
        rw [nI_clamp (show f < 2 ^ 31 by omega)]
        refine xiast hk dX9_count_131 ht (vp_in_nI (by omega) (by omega)) ?_
        rw [nI_clamp (show f < 2 ^ 31 by omega)]
        refine xiinc hk dX9_count_132 rfl (by decide) rfl ?_
        refine xgoto hk 114 dX9_count_135 (by decide) ?_
        refine xsub [(0, _), (1, _), (2, _), (3, _), (4, _), (5, _)] rfl ?_
        refine ih (f + 1) _ _ (by omega) (nI_inc f) (by omega) (fun i j hi => by rw [rdI_ne hi]; exact hy1 i j hi) hy2 hz (fun j hj => ?_)
        rw [rdI]
        by_cases e : j = f
        · rw [if_pos ⟨rfl, e⟩, e]; exact hy1 _ _ ap.1.2.1
        · rw [if_neg (fun z => e z.2)]; exact hy4 j (by omega)
  refine xiload_n hk dX9_count_65 rfl ?_
  refine xaload_n hk dX9_count_66 rfl ?_
  refine xgetI (ci := 9) (f := 0) hk dX9_count_67 ⟨rfl, by decide, _, hL.1, rfl⟩ kX9_19 ?_
  rw [hX.1.1]
  refine xicmp_ge hk 105 dX9_count_70 (by decide) (fun h70 => ?_) (fun h70 => ?_)
  · refine xaload_n hk dX9_count_105 rfl ?_
    refine xiconst (v := 0) hk dX9_count_106 (by decide) ?_
    refine xiald hk dX9_count_107 hmm (show vp_in (nI 0) _ from vp_in_nI (by omega) (by omega)) ?_
    rw [show (0 : Int32).toNatClampNeg = 0 from rfl, hmk 0 (by omega)]
    refine xif_ne hk 138 dX9_count_108 (by decide) (fun h108 => ?_) (fun h108 => ?_)
    · rw [show (0 : Int32) = nI 0 from rfl, nI_eq (by omega) (by decide)] at h108
      exact sum x (fun _ _ _ => rfl) rfl (fun _ _ => rfl) (fun z => absurd z h108)
    · rw [show (0 : Int32) = nI 0 from rfl, nI_eq (by omega) (by decide)] at h108
      refine xiconst (v := 0) hk dX9_count_111 (by decide) ?_
      refine xistore hk dX9_count_112 (by decide) ?_
      refine xsub [(0, _), (1, _), (2, _), (3, _), (4, _), (5, _)] rfl ?_
      exact told _ 0 _ x (Nat.lt_succ_self _) rfl (by omega) (fun _ _ _ => rfl) rfl h108 (fun j hj => absurd hj (by omega))
  · rw [nI_leI (by omega) (by omega)] at h70
    omega
