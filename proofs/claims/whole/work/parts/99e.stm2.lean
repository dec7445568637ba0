/-! A statement's line, whole -/
theorem ms_two {N : Nat} {x z : XS} {cf : Nat → Int32} {p c e o : Nat} {its : Int32} {y w : XS} {q : Nat} {c1 v3 kd btC : Int32} {b : Int32} (hl : LSt N x z cf p c e o) (hkd : KD kd its) (hk : (btC, b) ∈ KM) (hk0 : btC ≠ 260) (hk1 : btC ≠ 261)
    (h : Ms N x z cf p c e o its y w q (fun s => s.1 23 (cn (z.1 5) 2 p) = v3 ∧ (its = 9 → s.1 24 (cn (z.1 5) 2 p) = v3)) (∃ a, a < 2 * cn (z.1 5) 1 p ∧ c1 = nI a ∧ v3 = nI a)) :
    Ln N x z p (let t := takeU y btC; if t.1 then (if (claimU t.2).1 < 0 then (false, (claimU t.2).2) else (true, addStF (claimU t.2).2 kd c1 (claimU t.2).1)) else (false, t.2)) (btG (some b) w) := by
  have hb := h.1
  have hN := hb.N
  unfold btG
  dsimp only
  by_cases hq : curK y = btC
  · have hq1 := hb.nx hq hk0 hk1
    rw [take_t hq, eat_t hb.z9 (by omega) ((hb.kz _ _ hk).mp hq), obT]
    dsimp only
    rw [if_pos rfl]
    have h1 := ms_adv h hq1
    rcases ms_claim (PP' := fun s => s.1 23 (cn (z.1 5) 2 p) = v3 ∧ s.1 24 (cn (z.1 5) 2 p) = s.1 24 (cn (z.1 5) 2 p)) h1 (Or.inr rfl) (fun s s' v g1 _ _ g4 => ⟨(g4 rfl).1.trans g1.1, rfl⟩) with ⟨u, g1, g2, g3⟩ | ⟨u, v, g1, g2, g3, g4, g5⟩
    · rw [g1, obF, g2, if_pos neg1]
      exact Or.inl ⟨u, rfl, rfl, g3.after h1.wf⟩
    · rw [g1, obT, if_neg g2]
      obtain ⟨n1, n2, n3⟩ := ms_end (v3 := v3) (v4 := v) (c1 := c1) (c2 := (claimU (adv y)).1) (kd := kd) hl hkd (by
        obtain ⟨a1, a2, a3, a4, a5, a6, a7, a8, a9, a10, a11, a12, a13⟩ := g5
        exact ⟨a1, a2, a3, a4, a5, a6, a7, a8, a9, a10, a11, ⟨a12.1, g4 rfl⟩, a13⟩)
      exact Or.inr ⟨u, cf, _, c, e, o, rfl, rfl, n1, n2, n3⟩
  · rw [take_f hq, eat_f hb.z9 (by omega) (fun g => hq ((hb.kz _ _ hk).mpr g)), obF]
    dsimp only
    rw [if_neg (by decide)]
    exact Or.inl ⟨w, rfl, rfl, hb.fl h.wf⟩
theorem ms_rest {N : Nat} {x z : XS} {cf : Nat → Int32} {p c e o : Nat} {its : Int32} {y w : XS} {q : Nat} {kd btC : Int32} {bt : Option Int32} (hl : LSt N x z cf p c e o) (hkd : KD kd its)
    (hbt : (btC = 263 ∧ bt = none ∧ its = 9) ∨ (∃ b, (btC, b) ∈ KM ∧ bt = some b ∧ btC ≠ 263 ∧ btC ≠ 260 ∧ btC ≠ 261)) (h : Ms N x z cf p c e o its y w q (fun _ => True) True) :
    Ln N x z p (stmB kd btC y) (clG bt w) := by
  unfold stmB clG
  dsimp only
  rcases ms_claim (PP' := fun s => s.1 23 (cn (z.1 5) 2 p) = s.1 23 (cn (z.1 5) 2 p) ∧ (its = 9 → s.1 24 (cn (z.1 5) 2 p) = s.1 23 (cn (z.1 5) 2 p))) h (Or.inl rfl) (fun s s' v _ _ g3 _ => ⟨rfl, fun k => ((g3 rfl).2 k).trans (g3 rfl).1.symm⟩) with ⟨u, g1, g2, g3⟩ | ⟨u, v, g1, g2, g3, g4, g5⟩
  · rw [g1, obF, g2, if_pos neg1]
    exact Or.inl ⟨u, rfl, rfl, g3.after h.wf⟩
  · rw [g1, obT, if_neg g2]
    dsimp only
    have g5' : Ms N x z cf p c e o its (claimU y).2 u (q + 2) (fun s => s.1 23 (cn (z.1 5) 2 p) = v ∧ (its = 9 → s.1 24 (cn (z.1 5) 2 p) = v)) (∃ a, a < 2 * cn (z.1 5) 1 p ∧ (claimU y).1 = nI a ∧ v = nI a) := by
      obtain ⟨a1, a2, a3, a4, a5, a6, a7, a8, a9, a10, a11, a12, a13⟩ := g5
      exact ⟨a1, a2, a3, a4, a5, a6, a7, a8, a9, a10, a11, ⟨g3 rfl, fun k => (a12.2 k).trans (g3 rfl)⟩, Md_imp a13 (fun ⟨k1, k2⟩ => ⟨k1, k2.2⟩)⟩
    rcases hbt with ⟨b1, b2, b3⟩ | ⟨b, b1, b2, b3, b4, b5⟩
    · subst b1; subst b2
      rw [if_pos rfl]
      obtain ⟨n1, n2, n3⟩ := ms_end (v3 := v) (v4 := v) (c1 := (claimU y).1) (c2 := (claimU y).1) (kd := kd) hl hkd (by
        obtain ⟨a1, a2, a3, a4, a5, a6, a7, a8, a9, a10, a11, a12, a13⟩ := g5'
        exact ⟨a1, a2, a3, a4, a5, a6, a7, a8, a9, a10, a11, ⟨a12.1, a12.2 b3⟩, Md_imp a13 (fun ⟨k1, k2⟩ => ⟨k1, k2, k2⟩)⟩)
      exact Or.inr ⟨u, cf, _, c, e, o, rfl, rfl, n1, n2, n3⟩
    · subst b2
      rw [if_neg b3]
      exact ms_two hl hkd b1 b4 b5 g5'
theorem ln_stm {N : Nat} {x z : XS} {cf : Nat → Int32} {p c e o : Nat} (h : LSt N x z cf p c e o) {kc its kd ahC btC : Int32} {ah bt : Option Int32} (hk : curK x = kc) (hkz : z.1 2 p = its) (hk0 : kc ≠ 260) (hk1 : kc ≠ 261) (hkd : KD kd its)
    (hah : (ahC = 263 ∧ ah = none) ∨ (∃ a, (ahC, a) ∈ KM ∧ ah = some a ∧ ahC ≠ 263 ∧ ahC ≠ 260 ∧ ahC ≠ 261))
    (hbt : (btC = 263 ∧ bt = none ∧ its = 9) ∨ (∃ b, (btC, b) ∈ KM ∧ bt = some b ∧ btC ≠ 263 ∧ btC ≠ 260 ∧ btC ≠ 261)) :
    Ln N x z p (stmU x kd ahC btC) (stG ah bt (setI z 0 9 (nI (p + 1)))) := by
  have hl := h
  obtain ⟨hb, hc, he, ho, h6, hm⟩ := h
  have hN := hb.N
  have hp := hb.nx hk hk0 hk1
  have b1 := sb_adv hb hp
  have hx1 := b1.2.2.1
  have r0 : z.1 5 p = 0 := hb.2.2.2.2.1 p (Nat.le_refl _) hb.2.1
  have m1 := Md_adv hm hb.2.2.1 r0 id
  have wf1 := WF.adv (z := z) (p' := p + 1) hb.2.2.1
  have e5 : (setI z 0 9 (nI (p + 1))).1 5 = z.1 5 := rowI (by decide)
  have exa : ∀ q k, q ≠ 34 → (adv x).1 q k = x.1 q k := fun q k hq => by rw [adv_x hb.2.2.1, rdI_ne hq]
  have ez : ∀ q k, ¬ (q = 0 ∧ k = 9) → (setI z 0 9 (nI (p + 1))).1 q k = z.1 q k := fun q k hq => by rw [rdI, if_neg hq]
  unfold stG stmU
  dsimp only
  generalize hz1 : setI z 0 9 (nI (p + 1)) = z1 at *
  by_cases hk2 : curK (adv x) = 258
  · have hp1 := b1.nx hk2 (by decide) (by decide)
    rw [eatAs_t b1.z9 (by omega) ((b1.kz 258 40 (by decide)).mp hk2), obT]
    dsimp only
    have hsu : stnU (adv x) = if findF (adv x) 36 20 ((adv x).1 8 1) (x.2 7 (p + 1)) < 0 then (if (adv x).1 8 1 < 0 then (true, adv (noteF (adv x) 4)) else if nI 20 ≤ (adv x).1 8 1 then (true, adv (noteF (adv x) 4)) else (true, adv (setL (adv x) 36 ((adv x).1 8 1).toNatClampNeg (x.2 7 (p + 1))))) else (true, adv (noteF (adv x) 2)) := by
      unfold stnU
      dsimp only
      rw [next_t hk2, if_pos rfl, curV_ok b1.1 b1.2.1 hx1]; rfl
    obtain ⟨y, y1, y2, y3, y4⟩ := new_eval (n := 20) hx1 (by decide) (fun q k hq => by rfl) hsu
    have yx : y.1 34 4 = nI (p + 2) ∧ (∀ q k, q ≠ 34 → y.1 q k = x.1 q k) ∧ (∀ q, q ≠ 36 → y.2 q = x.2 q) := by
      rcases y2 with y2 | ⟨g1, g2, g3⟩
      · rw [y2, adv_x (p := p + 1) (by exact hx1)]
        exact ⟨rdI_eq, fun q k a => by rw [rdI_ne a]; exact exa q k a, fun q a => funext fun k => rdL_ne a⟩
      · exact ⟨g3, fun q k a => (g1 q k a).trans (exa q k a), fun q _ => by rw [g2]; rfl⟩
    obtain ⟨yx1, yx2, yx3⟩ := yx
    have rlp : (rl z1 (p + 1) 2).1 5 p = 0 := by rw [rl_n (by omega) (by omega), e5]; exact r0
    have rlq : (rl z1 (p + 1) 2).1 5 (p + 1) = 2 := rl_5 _ _ _
    have hσ : ∀ j, j < p + 1 → (rl z1 (p + 1) 2).1 5 j = z.1 5 j := fun j hj => by rw [rl_n (by omega) (by omega), e5]
    have s2 := sb_step b1 hp1 2 (y := y) (fun q k hq => (yx2 q k (by omega)).trans (exa q k (by omega)).symm) (fun k => by rw [yx3 7 (by decide)]; rfl) yx1 ((yx2 8 12 (by decide)).trans hb.2.2.2.2.2.1) ⟨fun g => absurd g (by decide), fun g => absurd g (by decide), fun _ => b1.ck.symm.trans hk2, fun _ => by omega⟩
    have cn2 : cn ((rl z1 (p + 1) 2).1 5) 2 (p + 1) = cn (z.1 5) 2 p := by rw [cn_n (by rw [rlp]; decide), cn_cong (fun j hj => hσ j (by omega))]
    have pe : p2 ((rl z1 (p + 1) 2).1 5) (z.1 2) (x.2 7) (p + 2) = setI (p2 (z.1 5) (z.1 2) (x.2 7) p) 22 (cn (z.1 5) 2 p) its := by
      rw [p2_1]
      unfold eff
      rw [rlq, if_pos rfl, cn2, show p + 1 - 1 = p from rfl, hkz, p2_1, eff0 (Or.inl rlp), p2_cong (fun j hj => hσ j (by omega))]
    have hMs : Ms N x z cf p c e o its y (rl z1 (p + 1) 2) (p + 2) (fun _ => True) True := by
      refine ⟨s2, Nat.le_refl _, yx2, yx3, fun i k a b => ?_, fun j hj => hσ j (by omega), rlp, rlq, fun j a b => by omega, ?_, fun i k a b => ?_, trivial, ?_⟩
      · rw [rl_n (fun g => a g.1) b]; exact ez i k b
      · rw [pe]; exact rdI_eq
      · rw [pe, rdI, if_neg (fun g => b ⟨by omega, by omega, g.2⟩)]
      · refine Md_step m1 hσ y3 (fun h5 hQ => ?_)
        obtain ⟨F, S, O, hq⟩ := hQ
        have q2 := hq.2.1
        have fa : StmL (adv x) (z.1 5) (x.2 7) (p + 1) S := StmL_of (by omega) (exa _ _ (by decide)) (fun _ => rfl) (fun _ _ => rfl) (fun j a b => by rw [show j = p by omega, r0]; decide) q2
        obtain ⟨f1, f2⟩ := stm_find (by omega) fa (x.2 7 (p + 1))
        have tl1 : tl ((rl z1 (p + 1) 2).1 5) (x.2 7) 2 (x.2 7 (p + 1)) (p + 1) = tl (z.1 5) (x.2 7) 2 (x.2 7 (p + 1)) (p + 1) := tl_cong hσ (fun _ => rfl)
        obtain ⟨g1, g2, g3⟩ := y4 h5 S q2.2.1 fa.2.2.1
        rw [f1] at g1 g2 g3
        have hSS := q2.1
        have hS20 := q2.2.1
        rw [er2 rlq, tl1, cn2, hSS]
        rcases tl_val (ρ := z.1 5) (V := x.2 7) (r := 2) (v := x.2 7 (p + 1)) (p := p + 1) (by omega) with ht | ⟨k, k1, k2⟩
        · rw [if_pos ht]
          by_cases hS : S = 20
          · rw [if_pos hS]
            exact Or.inr ⟨by decide, g1 ⟨ht, hS⟩⟩
          · rw [if_neg hS]
            have hy := g2 ⟨ht, hS⟩
            have h8 : (adv x).1 8 1 = nI S := fa.2.2.1
            rw [h8, nI_clamp (by omega)] at hy
            have ya : y = setI (setL (adv x) 36 S (x.2 7 (p + 1))) 34 4 (nI (p + 1 + 1)) := by
              rw [hy]; exact adv_x (p := p + 1) hx1
            refine Or.inl ⟨rfl, ?_, ⟨F, S, O, hq, by omega, ?_, fun k hk => ?_⟩, trivial⟩
            · rw [ya, rdI_nk (by decide)]; exact h5
            · rw [ya]; exact rdL_eq
            · rw [ya]; exact rdL_nk (by omega)
        · have f2' : cn (z.1 5) 2 (p + 1) = S := f2
          rw [k2, if_neg (nI_nm1 (by omega))]
          exact Or.inr ⟨by decide, g3 k (by omega) k2⟩
    rw [y1]
    dsimp only
    rw [if_pos rfl]
    have hMN := hMs.1.N
    rcases hah with ⟨a1, a2⟩ | ⟨a, a1, a2, a3, a4, a5⟩
    · subst a1; subst a2
      rw [if_pos rfl]
      exact ms_rest hl hkd hbt hMs
    · subst a2
      rw [if_neg a3]
      unfold ahG
      dsimp only
      by_cases hq : curK y = ahC
      · rw [take_t hq, eat_t hMs.1.z9 (by omega) ((hMs.1.kz _ _ a1).mp hq), obT]
        dsimp only
        rw [if_pos rfl]
        exact ms_rest hl hkd hbt (ms_adv hMs (hMs.1.nx hq a4 a5))
      · rw [take_f hq, eat_f hMs.1.z9 (by omega) (fun g => hq ((hMs.1.kz _ _ a1).mpr g)), obF]
        dsimp only
        rw [if_neg (by decide)]
        exact Or.inl ⟨_, rfl, rfl, hMs.1.fl hMs.wf⟩
  · rw [eatAs_f b1.z9 (by omega) (fun q => hk2 ((b1.kz 258 40 (by decide)).mpr q)), obF]
    have e1 : stnU (adv x) = (false, adv x) := by unfold stnU; rw [next_f hk2, if_neg (by decide)]
    rw [e1, if_neg (show ¬ (false = true) by decide)]
    exact Or.inl ⟨_, rfl, rfl, (b1.fl5 2).after wf1⟩
