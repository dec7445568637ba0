/-! A claim of a statement, in both -/
theorem er34 {σ : Nat → Int32} {V : Nat → Int64} {p : Nat} (h : σ p = 3 ∨ σ p = 4) : er σ V p = if tl σ V 1 (V p) p = -1 then 3 else 0 := by
  unfold er
  rcases h with h | h <;> rw [h, if_neg (by decide), if_neg (by decide), if_pos (by decide)]
theorem claim_ln {N : Nat} {x z : XS} {cf : Nat → Int32} {p c e o d : Nat} (hb : Sb N x z cf p c e o d) {r : Int32} (hr : r = 3 ∨ r = 4) (hs : 0 < cn (z.1 5) 2 p) {Q : Prop} (hm : Md x (z.1 5) (x.2 7) p Q) (hF : Q → ∃ F, FamL x (z.1 5) (x.2 7) p F) :
    (∃ w, f_X10_isClaimTold r z = some (false, w) ∧ (claimU x).1 = -1 ∧ Fl N x z (claimU x).2 w) ∨
    (∃ w, f_X10_isClaimTold r z = some (true, w) ∧ ¬ (claimU x).1 < 0 ∧ p + 2 < N ∧ Sb N (claimU x).2 w cf (p + 2) c e o d ∧ (∀ q k, q ≠ 34 → (claimU x).2.1 q k = x.1 q k) ∧ (claimU x).2.2 = x.2 ∧
      (∀ q k, ¬ (q = 5 ∧ k = p) → ¬ (q = 0 ∧ k = 9) → w.1 q k = z.1 q k) ∧ w.1 5 p = r ∧ w.1 5 (p + 1) = 0 ∧
      Md (claimU x).2 (w.1 5) (x.2 7) (p + 2) (Q ∧ ∃ k, k < cn (w.1 5) 1 p ∧ tl (w.1 5) (x.2 7) 1 (x.2 7 p) p = nI k ∧ (claimU x).1 = 2 * nI k + (if z.1 2 (p + 1) = 11 then 1 else 0))) := by
  have hN := hb.N
  have z9 := hb.z9
  unfold f_X10_isClaimTold
  by_cases hk : curK x = 258
  · have hp := hb.nx hk (by decide) (by decide)
    have hx := hb.2.2.1
    obtain ⟨y1, y2, y3, y4, y5⟩ := note_adv x hx (findF x 35 10 (x.1 8 0) (x.2 7 p) < 0) 3
    obtain ⟨j, j1, j2⟩ := find_max (x := x) (q := 35) (n := 10) (c := x.1 8 0) (v := x.2 7 p) (by decide)
    have hu : knownU x 35 10 (x.1 8 0) = (nI j, adv (if findF x 35 10 (x.1 8 0) (x.2 7 p) < 0 then noteF x 3 else x)) := by
      rw [known_eq _ _ _ hk, curV_ok hb.1 hb.2.1 hx, j2]
    have s1 := sb_step hb hp r (fun q k hq => y1 q k (by omega)) (fun k => by rw [y2]) y3 ((y1 _ _ (by decide)).trans hb.2.2.2.2.2.1) ⟨fun _ => hs, fun g => by rcases hr with h | h <;> rw [h] at g <;> exact absurd g (by decide), fun _ => hb.ck.symm.trans hk, fun g => by rcases hr with h | h <;> rw [h] at g <;> exact absurd g (by decide)⟩
    have hσ : ∀ i, i < p → (rl z p r).1 5 i = z.1 5 i := fun i hi => rl_n (by omega) (by omega)
    have hrp := rl_5 z p r
    have mstep : Md (adv (if findF x 35 10 (x.1 8 0) (x.2 7 p) < 0 then noteF x 3 else x)) ((rl z p r).1 5) (x.2 7) (p + 1) (Q ∧ ∃ k, k < cn ((rl z p r).1 5) 1 p ∧ tl ((rl z p r).1 5) (x.2 7) 1 (x.2 7 p) p = nI k ∧ nI j = nI k) := by
      refine Md_step hm hσ (fun h => y4 (Or.inl h)) (fun h5 hQ => ?_)
      obtain ⟨F, hf⟩ := hF hQ
      obtain ⟨f1, f2⟩ := fam_find (by omega) hf (x.2 7 p)
      rw [er34 (by rw [hrp]; exact hr), tl_cong hσ (fun _ => rfl), cn_cong hσ]
      have hFF := hf.2.1
      rcases tl_val (ρ := z.1 5) (V := x.2 7) (r := 1) (v := x.2 7 p) (p := p) (by omega) with ht | ⟨k, k1, k2⟩
      · rw [if_pos ht]
        rw [ht] at f1
        exact Or.inr ⟨by decide, y5 h5 (by rw [f1]; decide)⟩
      · rw [k2, if_neg (nI_nm1 (by omega))]
        rw [k2] at f1
        have hn : ¬ findF x 35 10 (x.1 8 0) (x.2 7 p) < 0 := by rw [f1]; exact nI_nn (by omega)
        refine Or.inl ⟨rfl, (y4 (Or.inr hn)).1.trans h5, hQ, k, k1, rfl, ?_⟩
        rw [← j2, f1]; exact maxI_n (by omega)
    rw [eatAs_t z9 (by omega) ((hb.kz 258 40 (by decide)).mp hk), obT]
    dsimp only
    generalize adv (if findF x 35 10 (x.1 8 0) (x.2 7 p) < 0 then noteF x 3 else x) = y at *
    have hcl : claimU x = (let t := takeU y 310; if t.1 then (2 * nI j, t.2) else let t2 := takeU t.2 311; if t2.1 then (2 * nI j + 1, t2.2) else (-1, t2.2)) := by
      unfold claimU; rw [hu]; dsimp only; rw [if_neg (nI_nn (by omega))]
    have s1N := s1.N
    have fin : ∀ (v : Int32) (s : Int32), s = (if z.1 2 (p + 1) = 11 then 1 else 0) → curK y = v → v ≠ 260 → v ≠ 261 → ∀ C : Int32, C = 2 * nI j + s → ¬ C < 0 →
        p + 2 < N ∧ Sb N (adv y) (setI (rl z p r) 0 9 (nI (p + 1 + 1))) cf (p + 2) c e o d ∧ (∀ q k, q ≠ 34 → (adv y).1 q k = x.1 q k) ∧ (adv y).2 = x.2 ∧
      (∀ q k, ¬ (q = 5 ∧ k = p) → ¬ (q = 0 ∧ k = 9) → (setI (rl z p r) 0 9 (nI (p + 1 + 1))).1 q k = z.1 q k) ∧ (setI (rl z p r) 0 9 (nI (p + 1 + 1))).1 5 p = r ∧ (setI (rl z p r) 0 9 (nI (p + 1 + 1))).1 5 (p + 1) = 0 ∧
      Md (adv y) ((setI (rl z p r) 0 9 (nI (p + 1 + 1))).1 5) (x.2 7) (p + 2) (Q ∧ ∃ k, k < cn ((setI (rl z p r) 0 9 (nI (p + 1 + 1))).1 5) 1 p ∧ tl ((setI (rl z p r) 0 9 (nI (p + 1 + 1))).1 5) (x.2 7) 1 (x.2 7 p) p = nI k ∧ C = 2 * nI k + (if z.1 2 (p + 1) = 11 then 1 else 0)) := by
      intro v s hs hv v0 v1 C hC _
      have hp1 := s1.nx hv v0 v1
      have r5 : (setI (rl z p r) 0 9 (nI (p + 1 + 1))).1 5 = (rl z p r).1 5 := rowI (by decide)
      have z0 : (rl z p r).1 5 (p + 1) = 0 := by rw [rl_n (by omega) (by omega)]; exact hb.2.2.2.2.1 _ (by omega) hp
      refine ⟨hp1, sb_adv s1 hp1, fun q k hq => ?_, y2, fun q k a b => ?_, ?_, ?_, ?_⟩
      · rw [adv_x y3, rdI_ne hq]; exact y1 q k hq
      · rw [rdI, if_neg b]; exact rl_n a b
      · rw [r5]; exact hrp
      · rw [r5]; exact z0
      · rw [r5]
        exact Md_adv mstep y3 z0 (fun ⟨a, k, b1, b2, b3⟩ => ⟨a, k, b1, b2, by rw [hC, hs, b3]⟩)
    have hkz := s1.kz
    have e2 : (rl z p r).1 2 (p + 1) = z.1 2 (p + 1) := rl_n (by omega) (by omega)
    have s9 := s1.z9
    rw [hcl]
    dsimp only
    by_cases h10 : curK y = 310
    · have q10 := (hkz 310 10 (by decide)).mp h10
      rw [take_t h10, eat_t s9 (by omega) q10, obT]
      dsimp only
      rw [if_pos rfl]
      rw [e2] at q10
      exact Or.inr ⟨_, rfl, by rw [nI_2]; exact nI_nn (by omega), fin 310 0 (by rw [q10, if_neg (by decide)]) h10 (by decide) (by decide) _ (Int32.add_zero _).symm (by rw [nI_2]; exact nI_nn (by omega))⟩
    · have q10 : (rl z p r).1 2 (p + 1) ≠ 10 := fun q => h10 ((hkz 310 10 (by decide)).mpr q)
      rw [take_f h10, eat_f s9 (by omega) q10, obF]
      dsimp only
      rw [if_neg (by decide)]
      by_cases h11 : curK y = 311
      · have q11 := (hkz 311 11 (by decide)).mp h11
        rw [take_t h11, eat_t s9 (by omega) q11, obT]
        dsimp only
        rw [if_pos rfl]
        rw [e2] at q11
        have hlt : ¬ 2 * nI j + 1 < 0 := by rw [nI_2, show nI (2 * j) + 1 = nI (2 * j + 1) from nI_addN _ 1]; exact nI_nn (by omega)
        exact Or.inr ⟨_, rfl, hlt, fin 311 1 (by rw [q11, if_pos rfl]) h11 (by decide) (by decide) _ rfl hlt⟩
      · have q11 : (rl z p r).1 2 (p + 1) ≠ 11 := fun q => h11 ((hkz 311 11 (by decide)).mpr q)
        rw [take_f h11, eat_f s9 (by omega) q11, obF]
        dsimp only
        rw [if_neg (by decide)]
        exact Or.inl ⟨_, rfl, rfl, ⟨p + 1, s1.2.1, y3, s9⟩, WF.rl (fun q k a _ => y1 q k a) (fun q k _ _ => by rw [y2])⟩
  · rw [eatAs_f z9 (by omega) (fun q => hk ((hb.kz 258 40 (by decide)).mpr q)), obF]
    have e1 : claimU x = (-1, x) := by unfold claimU; rw [known_f _ _ _ hk]; rfl
    rw [e1]
    exact Or.inl ⟨_, rfl, rfl, hb.fl5 r⟩
