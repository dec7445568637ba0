/-! An order's line, whole -/
theorem er5 {σ : Nat → Int32} {V : Nat → Int64} {p : Nat} (h : σ p = 5) : er σ V p = if cn σ 5 p = 16 then 4 else 0 := by
  unfold er; rw [h, if_neg (by decide), if_neg (by decide), if_neg (by decide), if_pos rfl]
theorem er6 {σ : Nat → Int32} {V : Nat → Int64} {p : Nat} (h : σ p = 6) : er σ V p = if tl σ V 2 (V p) p = -1 then 3 else 0 := by
  unfold er; rw [h, if_neg (by decide), if_neg (by decide), if_neg (by decide), if_neg (by decide), if_pos (by decide)]
theorem min16 (O : Nat) (h : O < 2 ^ 31) : minI (nI O) 16 = nI (min O 16) := by
  unfold minI
  by_cases g : O ≤ 16
  · rw [if_neg (fun (q : (16 : Int32) < nI O) => by have := (nI_gt (a := 16) (by omega) h).mp q; omega), show min O 16 = O by omega]
  · rw [if_pos (show (16 : Int32) < nI O from (nI_gt (a := 16) (by omega) h).mpr (by omega)), show min O 16 = 16 by omega]; rfl
theorem ln_order {N : Nat} {x z : XS} {cf : Nat → Int32} {p c e o : Nat} (h : LSt N x z cf p c e o) (hk : curK x = 312 ∨ curK x = 313) : Ln N x z p (ordrU x) (f_X10_isOrder z) := by
  have hl := h
  obtain ⟨hb, hc, he, ho, h6, hm⟩ := h
  have hN := hb.N
  have hp : p + 1 < N := by rcases hk with hk | hk <;> exact hb.nx hk (by decide) (by decide)
  have hx := hb.2.2.1
  have z9 := hb.z9
  have hOO := cn_le (z.1 5) 5 p
  have hrn : (if b2i (nextB x 313) = 0 then (0 : Int32) else 1) = 1 ↔ ¬ z.1 2 p = 12 := by
    have a := hb.kz 312 12 (by decide)
    have b := hb.kz 313 13 (by decide)
    rcases hk with hk | hk
    · rw [next_f (by rw [hk]; decide), if_pos (b2i_f rfl), a.mp hk]; decide
    · rw [next_t hk, if_neg (b2i_n rfl), b.mp hk]; decide
  -- the order's word
  obtain ⟨n1, n2, n3, n4, n5⟩ := note_adv x hx (¬ x.1 8 7 < 16) 4
  have hx1 : adv (if x.1 8 7 < 16 then x else noteF x 4) = adv (if ¬ x.1 8 7 < 16 then noteF x 4 else x) := by
    by_cases g : x.1 8 7 < 16
    · rw [if_pos g, if_neg (fun k => k g)]
    · rw [if_neg g, if_pos g]
  have hcl : ordrU x = (let x1 := adv (if ¬ x.1 8 7 < 16 then noteF x 4 else x)
      let s := knownU x1 36 20 (x1.1 8 1)
      if s.1 < 0 then (false, s.2) else
      let t := takeU s.2 314
      if t.1 then (let r := testU (sinU 8) t.2; if r.1 then (true, addOrF r.2 (b2i (nextB x 313)) s.1 (s.2.1 8 12)) else (false, r.2))
      else (true, addOrF t.2 (b2i (nextB x 313)) s.1 (s.2.1 8 12))) := by unfold ordrU; rw [hx1]
  rw [hcl]
  clear hcl hx1
  generalize hx1 : adv (if ¬ x.1 8 7 < 16 then noteF x 4 else x) = x1 at *
  have s1 := sb_step hb hp 5 (y := x1) (fun q k hq => n1 q k (by omega)) (fun k => by rw [n2]) n3 ((n1 8 12 (by decide)).trans hb.2.2.2.2.2.1) ⟨fun g => absurd g (by decide), fun g => absurd g (by decide), fun g => absurd g (by decide), fun g => absurd g (by decide)⟩
  have hσ : ∀ j, j < p → (rl z p 5).1 5 j = z.1 5 j := fun j hj => rl_n (by omega) (by omega)
  have hrp := rl_5 z p 5
  have m1 : Md x1 ((rl z p 5).1 5) (x.2 7) (p + 1) (∃ F S O, LQ x z cf p c e F S O ∧ O < 16 ∧ min (cn (z.1 5) 5 p) 16 = O) := by
    refine Md_step hm hσ (fun g => n4 (Or.inl g)) (fun h5 hQ => ?_)
    obtain ⟨F, S, O, hq⟩ := hQ
    obtain ⟨q3, q4, q5⟩ := hq.2.2.1
    rw [er5 hrp, cn_cong hσ, q3]
    by_cases g : O = 16
    · rw [if_pos g]
      refine Or.inr ⟨by decide, n5 h5 ?_⟩
      rw [q5, g]; decide
    · rw [if_neg g]
      have g2 : x.1 8 7 < 16 := by rw [q5]; exact (nI_gt (b := 16) (by omega) (by omega)).mpr (by omega)
      exact Or.inl ⟨rfl, (n4 (Or.inr (fun k => k g2))).1.trans h5, F, S, O, hq, by omega, by omega⟩
  -- the reference
  have hpart : minI (nI (cn (z.1 5) 5 p)) 16 = nI (min (cn (z.1 5) 5 p) 16) := min16 _ (by omega)
  have hin : inB (nI (min (cn (z.1 5) 5 p) 16)) 17 = true := inB_nI (by omega) (by decide)
  have hcp : (nI (min (cn (z.1 5) 5 p) 16)).toNatClampNeg = min (cn (z.1 5) 5 p) 16 := nI_clamp (by omega)
  have e1 : setI (setI (setI z 5 p 5) 0 9 ((setI z 5 p 5).1 0 9 + 1)) 21 6 (nI (cn (z.1 5) 5 p) + 1) = setI (rl z p 5) 21 6 (nI (cn (z.1 5) 5 p + 1)) := by
    have a : (setI z 5 p 5).1 0 9 + 1 = nI (p + 1) := by rw [rdI_ne (by decide), z9]; exact nI_addN p 1
    rw [a]
    exact congrArg (setI (rl z p 5) 21 6) (nI_addN _ 1)
  have e2 : (setI (setI z 5 p 5) 0 9 ((setI z 5 p 5).1 0 9 + 1)).1 21 6 = nI (cn (z.1 5) 5 p) := by rw [rdI_ne (by decide), rdI_ne (by decide)]; exact h6
  unfold f_X10_isOrder
  rw [z9, inB_nI (show p < 401 by omega) (by decide), og_tr, nI_clamp (by omega)]
  simp only [e2, e1, hpart, hin, hcp, og_tr]
  generalize hPP : min (cn (z.1 5) 5 p) 16 = part at *
  have s1' := Sb_w (w := setI (rl z p 5) 21 6 (nI (cn (z.1 5) 5 p + 1))) s1 (fun q k _ _ d => by rw [rdI, if_neg d])
  have g5 : (setI (rl z p 5) 21 6 (nI (cn (z.1 5) 5 p + 1))).1 5 = (rl z p 5).1 5 := rowI (by decide)
  have wz1 : ∀ i k, i ≠ 5 → ¬ (i = 0 ∧ k = 9) → ¬ (i = 21 ∧ k = 6) → (setI (rl z p 5) 21 6 (nI (cn (z.1 5) 5 p + 1))).1 i k = z.1 i k := fun i k a b d => by rw [rdI, if_neg d]; exact rl_n (by omega) b
  have w6 : (setI (rl z p 5) 21 6 (nI (cn (z.1 5) 5 p + 1))).1 21 6 = nI (cn (z.1 5) 5 p + 1) := rdI_eq
  rw [← g5] at m1 hσ hrp
  generalize setI (rl z p 5) 21 6 (nI (cn (z.1 5) 5 p + 1)) = z1 at *
  by_cases hk1 : curK x1 = 258
  · have hp1 := s1'.nx hk1 (by decide) (by decide)
    rw [eatAs_t s1'.z9 (by omega) ((s1'.kz 258 40 (by decide)).mp hk1), obT]
    dsimp only
    obtain ⟨a1, a2, a3, a4, a5⟩ := note_adv x1 n3 (findF x1 36 20 (x1.1 8 1) (x.2 7 (p + 1)) < 0) 3
    obtain ⟨j, j1, j2⟩ := find_max (x := x1) (q := 36) (n := 20) (c := x1.1 8 1) (v := x.2 7 (p + 1)) (by decide)
    have hu : knownU x1 36 20 (x1.1 8 1) = (nI j, adv (if findF x1 36 20 (x1.1 8 1) (x.2 7 (p + 1)) < 0 then noteF x1 3 else x1)) := by
      rw [known_eq _ _ _ hk1, curV_ok s1'.1 s1'.2.1 n3, n2, j2]
    have c5 : cn (z1.1 5) 5 (p + 1) = cn (z.1 5) 5 p + 1 := by rw [cn_y hrp, cn_cong hσ]
    have s2 := sb_step s1' hp1 6 (y := adv (if findF x1 36 20 (x1.1 8 1) (x.2 7 (p + 1)) < 0 then noteF x1 3 else x1)) (fun q k hq => a1 q k (by omega)) (fun k => by rw [a2]) a3 ((a1 8 12 (by decide)).trans s1'.2.2.2.2.2.1) ⟨fun g => absurd g (by decide), fun _ => by rw [c5]; omega, fun _ => s1'.ck.symm.trans hk1, fun g => absurd g (by decide)⟩
    have hσ2 : ∀ i, i < p + 1 → (rl z1 (p + 1) 6).1 5 i = z1.1 5 i := fun i hi => rl_n (by omega) (by omega)
    have hrp2 := rl_5 z1 (p + 1) 6
    have cz2 : cn (z1.1 5) 2 (p + 1) = cn (z.1 5) 2 p := by rw [cn_n (by rw [hrp]; decide), cn_cong hσ]
    have m2 : Md (adv (if findF x1 36 20 (x1.1 8 1) (x.2 7 (p + 1)) < 0 then noteF x1 3 else x1)) ((rl z1 (p + 1) 6).1 5) (x.2 7) (p + 2) ((∃ F S O, LQ x z cf p c e F S O ∧ O < 16 ∧ part = O) ∧ ∃ k, k < cn (z.1 5) 2 p ∧ tl ((rl z1 (p + 1) 6).1 5) (x.2 7) 2 (x.2 7 (p + 1)) (p + 1) = nI k ∧ nI j = nI k) := by
      refine Md_step m1 hσ2 (fun g => a4 (Or.inl g)) (fun h5 hQ => ?_)
      have hQ' := hQ
      obtain ⟨F, S, O, hq, -⟩ := hQ'
      have fa : StmL x1 (z1.1 5) (x.2 7) (p + 1) S := StmL_of (by omega) (n1 _ _ (by decide)) (fun k => by rw [n2]) hσ (fun i a b => by rw [show i = p by omega, hrp]; decide) hq.2.1
      obtain ⟨f1, f2⟩ := stm_find (by omega) fa (x.2 7 (p + 1))
      have hS20 := fa.2.1
      rw [er6 hrp2, tl_cong hσ2 (fun _ => rfl)]
      rcases tl_val (ρ := z1.1 5) (V := x.2 7) (r := 2) (v := x.2 7 (p + 1)) (p := p + 1) (by omega) with ht | ⟨k, k1, k2⟩
      · rw [if_pos ht]
        rw [ht] at f1
        exact Or.inr ⟨by decide, a5 h5 (by rw [f1]; decide)⟩
      · rw [cz2] at k1
        rw [cz2] at f2
        rw [k2, if_neg (nI_nm1 (by omega))]
        rw [k2] at f1
        have hn : ¬ findF x1 36 20 (x1.1 8 1) (x.2 7 (p + 1)) < 0 := by rw [f1]; exact nI_nn (by omega)
        refine Or.inl ⟨rfl, (a4 (Or.inr hn)).1.trans h5, hQ, k, k1, rfl, ?_⟩
        rw [← j2, f1]; exact maxI_n (by omega)
    generalize adv (if findF x1 36 20 (x1.1 8 1) (x.2 7 (p + 1)) < 0 then noteF x1 3 else x1) = y at *
    have yx : ∀ q k, q ≠ 34 → y.1 q k = x.1 q k := fun q k a => (a1 q k a).trans (n1 q k a)
    have y2 : y.2 = x.2 := a2.trans n2
    have y12 : y.1 8 12 = nI c := (yx 8 12 (by decide)).trans hb.2.2.2.2.2.1
    rw [hu]
    dsimp only
    rw [if_neg (nI_nn (by omega)), y12]
    have ez : (rl z1 (p + 1) 6).1 21 12 = nI e := s2.2.2.2.2.2.2.1
    rw [ez]
    have s3 := Sb_w (w := setI (rl z1 (p + 1) 6) 27 part (nI e)) s2 (fun q k a _ _ => rdI_ne a)
    have g5' : (setI (rl z1 (p + 1) 6) 27 part (nI e)).1 5 = (rl z1 (p + 1) 6).1 5 := rowI (by decide)
    have w27 : (setI (rl z1 (p + 1) 6) 27 part (nI e)).1 27 part = nI e := rdI_eq
    have w6' : (setI (rl z1 (p + 1) 6) 27 part (nI e)).1 21 6 = nI (cn (z.1 5) 5 p + 1) := by rw [rdI_ne (by decide), rl_n (by omega) (by omega)]; exact w6
    have wz2 : ∀ i k, i ≠ 5 → ¬ (i = 0 ∧ k = 9) → ¬ (i = 21 ∧ k = 6) → ¬ (i = 27 ∧ k = part) → (setI (rl z1 (p + 1) 6) 27 part (nI e)).1 i k = z.1 i k := fun i k a b d f => by rw [rdI, if_neg f, rl_n (by omega) b]; exact wz1 i k a b d
    have r1 : ∀ i, i < p → (setI (rl z1 (p + 1) 6) 27 part (nI e)).1 5 i = z.1 5 i := fun i hi => by rw [g5', hσ2 i (by omega)]; exact hσ i hi
    have r2 : (setI (rl z1 (p + 1) 6) 27 part (nI e)).1 5 p = 5 := by rw [g5', hσ2 p (by omega)]; exact hrp
    have r3 : (setI (rl z1 (p + 1) 6) 27 part (nI e)).1 5 (p + 1) = 6 := by rw [g5']; exact hrp2
    rw [← g5'] at m2
    generalize setI (rl z1 (p + 1) 6) 27 part (nI e) = z3 at *
    have s3N := s3.N
    by_cases hq : curK y = 314
    · have hq1 := s3.nx hq (by decide) (by decide)
      have s4 := sb_adv s3 hq1
      have z30 : z3.1 5 (p + 2) = 0 := s3.2.2.2.2.1 _ (Nat.le_refl _) s3.2.1
      have m4 := Md_adv m2 s3.2.2.1 z30 id
      have h5e : (setI z3 0 9 (nI (p + 2 + 1))).1 5 = z3.1 5 := rowI (by decide)
      have y4 : y.1 34 4 = nI (p + 2) := s3.2.2.1
      have ax : ∀ q k, q ≠ 34 → (adv y).1 q k = x.1 q k := fun q k a => by rw [adv_x y4, rdI_ne a]; exact yx q k a
      rw [take_t hq, eat_t s3.z9 (by omega) ((s3.kz 314 14 (by decide)).mp hq), obT]
      dsimp only
      rw [if_pos rfl]
      rw [← h5e] at m4 r1 r2 r3 z30
      have wz4 : ∀ i k, i ≠ 5 → ¬ (i = 0 ∧ k = 9) → ¬ (i = 21 ∧ k = 6) → ¬ (i = 27 ∧ k = part) → (setI z3 0 9 (nI (p + 2 + 1))).1 i k = z.1 i k := fun i k a b d f => by rw [rdI, if_neg b]; exact wz2 i k a b d f
      have w27' : (setI z3 0 9 (nI (p + 2 + 1))).1 27 part = nI e := (rdI_ne (by decide)).trans w27
      have w6'' : (setI z3 0 9 (nI (p + 2 + 1))).1 21 6 = nI (cn (z.1 5) 5 p + 1) := (rdI_ne (by decide)).trans w6'
      have e7 : (adv y).2 = x.2 := y2
      generalize setI z3 0 9 (nI (p + 2 + 1)) = z4 at *
      have hne : ∀ i, p ≤ i → i < p + 2 + 1 → z4.1 5 i ≠ 1 ∧ z4.1 5 i ≠ 2 := by
        intro i a b
        rcases Nat.lt_or_ge i (p + 2) with g | g
        · rcases Nat.lt_or_ge i (p + 1) with g2 | g2
          · rw [show i = p by omega, r2]; decide
          · rw [show i = p + 1 by omega, r3]; decide
        · rw [show i = p + 2 by omega, z30]; decide
      have mS : Md (adv y) (z4.1 5) ((adv y).2 7) (p + 2 + 1) (FamL (adv y) (z4.1 5) ((adv y).2 7) (p + 2 + 1) (cn (z.1 5) 1 p) ∧ StmL (adv y) (z4.1 5) ((adv y).2 7) (p + 2 + 1) (cn (z.1 5) 2 p)) := by
        rw [e7]
        refine Md_imp m4 (fun hq0 => ?_)
        obtain ⟨⟨F, S, O, hq, -⟩, -⟩ := hq0
        have q1 : FamL x (z.1 5) (x.2 7) p (cn (z.1 5) 1 p) := by rw [hq.1.1]; exact hq.1
        have q2 : StmL x (z.1 5) (x.2 7) p (cn (z.1 5) 2 p) := by rw [hq.2.1.1]; exact hq.2.1
        exact ⟨FamL_of (by omega) (ax _ _ (by decide)) (fun k => by rw [e7]) r1 (fun i a b => (hne i a b).1) q1, StmL_of (by omega) (ax _ _ (by decide)) (fun k => by rw [e7]) r1 (fun i a b => (hne i a b).2) q2⟩
      have st4 := s4.st mS
      have wfx : WF x z (adv y) z4 := ⟨fun i k a _ => ax i k a, fun i k _ _ => by rw [e7], fun i k a b d f => wz4 i k a (by omega) (by omega) (by omega)⟩
      rcases sm_tests (adv y) z4 cf (p + 2 + 1) c e o st4 (by omega) (by omega) (by omega) with ⟨w, g1, g2, g3⟩ | ⟨w, g1, g2, cg, p', n, e', o', l1, l2, l3, l4, l5, l6⟩
      · rw [g1, obF, g2, if_neg (by decide)]
        exact Or.inl ⟨w, rfl, rfl, g3.after wfx⟩
      · rw [g1, obT, g2, if_pos rfl]
        generalize testU (sinU 8) (adv y) = r at *
        obtain ⟨rb, ry⟩ := r
        dsimp only at l5 l6 g2 ⊢
        obtain ⟨sb5, md5⟩ := l5.st.sb
        obtain ⟨t1, t2, t3, t4, t5, t6, t7, t8⟩ := l5.fr
        have hN5 := sb5.N
        have hee := l5.2.2.1
        have w12 : w.1 21 12 = nI e' := sb5.2.2.2.2.2.2.1
        have r14 : ∀ i, i < p + 2 → w.1 5 i = z4.1 5 i := fun i hi => t5 i (by omega)
        rw [w12]
        have em := or_end (y := ry) (w := w) (part := part) (rn := b2i (nextB x 313)) (jj := nI j) (q := p') (cg := cg) (n := n) (e' := e') (o' := o') hl (by omega) (by omega) (by omega) (by omega) hee sb5
          (fun i k a b d => by rw [t1 i k a b d]; exact ax i k a) (t2.trans e7) (fun i k a b d => by rw [t3 i k a b d]; exact ax i k (by omega))
          (fun i k a b d f g h => by rw [t4 i k a b d f (by omega)]; exact wz4 i k a (by omega) (by omega) h) (by rw [t4 _ _ (by decide) (by decide) (by decide) (by omega) (by omega)]; exact w6'') (by rw [t4 _ _ (by decide) (by decide) (by decide) (by omega) (by omega)]; exact w27')
          (fun i hi => (r14 i (by omega)).trans (r1 i hi)) ((r14 p (by omega)).trans r2) ((r14 (p + 1) (by omega)).trans r3)
          (fun i a b => by
            rcases Nat.lt_or_ge i (p + 2 + 1) with g | g
            · rw [t5 i g, show i = p + 2 by omega, z30]; exact Or.inl rfl
            · exact t6 i g b) t7 hrn (by
            rw [t2, e7] at md5
            rcases md5 with ⟨b1, b2, b3⟩ | b3
            · refine Or.inl ⟨b1, b2, ?_, Or.inr ?_⟩
              · have := (m4.imp (fun g => g.2.2) (fun g => g) : _ ∨ EA _ _ _ _)
                rcases this with g | ⟨t, -, -, g, -⟩
                · obtain ⟨ga, k, gb, gc, gd⟩ := g
                  refine ⟨ga, k, gb, ?_, gd⟩
                  rw [tl_cong (fun i hi => r14 i (by omega)) (fun _ => rfl)]; exact gc
                · exact absurd (t8 b1) g
              · have hp := l6 b1 [] (Nat.zero_le _)
                refine ⟨?_, hp⟩
                rcases Nat.eq_zero_or_pos n with g | g
                · subst g
                  exact absurd hp.2 (by simp)
                · exact g
            · exact Or.inr b3)
        exact Or.inr ⟨_, cg, p', c + n, e', o', rfl, rfl, by omega, em.1, em.2⟩
    · rw [take_f hq, eat_f s3.z9 (by omega) (fun g => hq ((s3.kz 314 14 (by decide)).mpr g)), obF]
      dsimp only
      rw [if_neg (by decide)]
      have w12 : z3.1 21 12 = nI e := s3.2.2.2.2.2.2.1
      rw [w12]
      have em := or_end (y := y) (w := z3) (part := part) (rn := b2i (nextB x 313)) (jj := nI j) (q := p + 2) (cg := cf) (n := 0) (e' := e) (o' := o) hl (by omega) (by omega) (by omega) (by omega) (Nat.le_refl _) s3 (fun i k a _ _ => yx i k a) y2 (fun i k a b _ => yx i k (by omega)) (fun i k a _ _ d f g => wz2 i k a (by omega) (by omega) g) w6' w27 r1 r2 r3 (fun i a b => by omega) (fun _ _ => rfl) hrn (Md_imp m2 (fun g => ⟨g, Or.inl ⟨rfl, rfl⟩⟩))
      exact Or.inr ⟨_, cf, p + 2, c + 0, e, o, rfl, rfl, by omega, em.1, em.2⟩
  · rw [eatAs_f s1'.z9 (by omega) (fun q => hk1 ((s1'.kz 258 40 (by decide)).mpr q)), obF, known_f _ _ _ hk1]
    dsimp only
    rw [if_pos neg1]
    exact Or.inl ⟨_, rfl, rfl, (s1'.fl5 6).after ⟨fun i k a _ => n1 i k a, fun i k _ _ => by rw [n2], fun i k a b d f => wz1 i k a (by omega) (by omega)⟩⟩
