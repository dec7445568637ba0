/-! Days until peace -/
def rsM (x : XS) : XS := mixX (setI (setI (setI x 0 13 (x.1 21 (0 : Int32).toNatClampNeg)) 0 14 (x.1 21 (1 : Int32).toNatClampNeg)) 0 15 (x.1 21 (2 : Int32).toNatClampNeg)) x 21
theorem du_s (n : Nat) (v : Int32) (x : XS) : f_X10_daysUntilPeace_L32 (n + 1) v x = (if 30 < v then og (inB 0 3) (og (inB 1 3) (og (inB 2 3) (if v ≤ 30 then some (v, rsM x) else some (-1, rsM x)))) else og (cdec ((x.1 11 1).toNatClampNeg ≤ 20)) (if (b2i (anyF x (x.1 0 15))) = 0 then og (cdec (MOK (mixX x x 21))) (ob (mpassO 1 (mixX x x 21)) (fun u51 => f_X10_daysUntilPeace_L32 n (v + 1) (mixX u51 (mixX x x 21) 21))) else og (inB 0 3) (og (inB 1 3) (og (inB 2 3) (if v ≤ 30 then some (v, rsM (mixX x x 21)) else some (-1, rsM (mixX x x 21))))))) := rfl
theorem du_eq (x : XS) : f_X10_daysUntilPeace x = og (inB 0 3) (og (inB 1 3) (og (inB 2 3) (f_X10_daysUntilPeace_L32 40 0 (sv3 x)))) := rfl
theorem any_ct {R : XS → XS → Prop} {c : Nat} {x y : XS} {F S : Nat} {l r : Nat → Nat} {m : Nat} (hB : BkC R c x y F S l r m) : (anyF y (y.1 0 15) = true ↔ ¬ countF x (x.1 c 1) ≤ 0) := by
  have hF := hB.x1.1
  rw [Bk.zs hB, hB.s1, anyF_eq (Bk.bz hB), count_eq hB.x1 hB.p1 hB.l1 (Bk.ne hB)]
  have := ct_1024 (P := PA l r (nI m) S) hF
  rw [nI_le0 (by omega)]
  omega
theorem rsM_1 {M : XS} {q k : Nat} (h : q ≠ 21) (h2 : q ≠ 0 ∨ (k ≠ 13 ∧ k ≠ 14 ∧ k ≠ 15)) : (rsM M).1 q k = M.1 q k := bkM_1 h h2
theorem rsM_s (M : XS) : (rsM M).1 0 13 = M.1 21 0 ∧ (rsM M).1 0 14 = M.1 21 1 ∧ (rsM M).1 0 15 = M.1 21 2 := bkM_s M
/-- the class's side out of one, the reference's out of another, the day's three numbers put back -/
theorem back2 {R : XS → XS → Prop} (hR : Stab R) {x0 z0 x y X u w : XS} {F S : Nat} {l r : Nat → Nat} {m0 m m' : Nat} (h : Bk R x0 z0 F S l r m0) (hl : BkC R 47 x y F S l r m) (hu : BkC R 47 X u F S l r m') (h46 : ∀ k, x.1 46 k = x0.1 46 k) (hf : ∀ q k, q11 q → u.1 q k = y.1 q k) (hf0 : ∀ k, k < 13 → u.1 0 k = y.1 0 k)
    (hw : ∀ q k, q ≠ 21 → q ≠ 0 ∨ (k ≠ 13 ∧ k ≠ 14 ∧ k ≠ 15) → w.1 q k = u.1 q k) (e13 : w.1 0 13 = z0.1 0 13) (e14 : w.1 0 14 = z0.1 0 14) (e15 : w.1 0 15 = z0.1 0 15) : Bk R x w F S l r m0 := by
  have wy : ∀ q k, q ≠ 21 → q11 q → w.1 q k = y.1 q k := fun q k h1 hq => (hw q k h1 (Or.inl hq.1)).trans (hf q k hq)
  refine ⟨hl.x1, BkZ_of (fun q k hq => hw q k (by omega) (by omega)) (Bk.bz hu), hl.p1, fun k hk => ?_, h.lm, (h46 1).trans h.xs, e15.trans h.zs, by rw [h46, e13]; exact h.dy, by rw [h46, e14]; exact h.co, hl.w1, hl.l1, ?_, ?_, hR (Bk.rest hl) (fun q hq k => ⟨(ovr_1 (by omega)).symm, rfl⟩) ⟨fun q k hq => ?_, ?_, ?_⟩⟩
  · have := Bk.kin hl k hk
    rw [ovr_1 (by decide), ovr_1 (by decide), ovr_1 (by decide)] at this
    rw [kind_eq (z := y) (fun i => wy 12 i (by decide) (by unfold q11; omega)), wy 13 k (by decide) (by unfold q11; omega), wy 14 k (by decide) (by unfold q11; omega)]
    exact this
  · rw [hw _ _ (by omega) (by omega)]; exact (Bk.fol hu).imp id (FolC_of (fun k => hw _ _ (by omega) (by omega)) (hw _ _ (by omega) (by omega)))
  · rw [hw _ _ (by omega) (by omega)]; exact (Bk.look hu).imp id (LookC_of (fun k => hw _ _ (by omega) (by omega)) (fun k hk => hw _ _ (by omega) (by omega)))
  · by_cases e : q = 21
    · omega
    · exact wy q k e (by unfold q11; omega)
  · rw [hw _ _ (by omega) (by omega)]; exact hf0 2 (by decide)
  · rw [hw _ _ (by omega) (by omega)]; exact hf0 3 (by decide)
theorem du_loop {R : XS → XS → Prop} (hR : Stab R) (hQ : OrdQ R) {F S : Nat} {l r : Nat → Nat} {x0 z0 : XS} {m0 : Nat} (h : Bk R x0 z0 F S l r m0) : ∀ (n j m : Nat) (x y : XS), BkC R 47 x y F S l r m → (∀ k, x.1 46 k = x0.1 46 k) → y.1 21 0 = z0.1 0 13 → y.1 21 1 = z0.1 0 14 → y.1 21 2 = z0.1 0 15 → j ≤ 30 → 31 - j < n →
    ∃ v x' w, f_X8_daysUntilPeace_L13 n (nI j) x = some (v, x') ∧ f_X10_daysUntilPeace_L32 n (nI j) y = some (v, w) ∧ Bk R x' w F S l r m0
  | 0, _, _, _, _, _, _, _, _, _, _, h => absurd h (Nat.not_lt_zero _)
  | n + 1, j, m, x, y, hB, h46, ha, hb, hd, hj, hn => by
    obtain ⟨i0, i1, i2⟩ := b03
    have hS := hB.x1.2.1
    have h30 : ¬ (30 : Int32) < nI j := fun h => by
      rw [show (30 : Int32) = nI 30 from rfl, nI_lt' (by decide), nI_clamp (by omega)] at h; omega
    have hle : nI j ≤ 30 := (nI_leq (b := 30) (by omega) (by decide)).mpr hj
    have hl := hB.land2 hR (Or.inr rfl) (Bk.ne hB)
    have hac := any_ct hB
    rw [f_X8_daysUntilPeace_L13, du_s, if_neg h30, if_pos hle, mix_self, (Bk.bz hB).2.2.2.1, nI_clamp (by omega), cdec_t hS, cdec_t (Bk.mok hB), i0, i1, i2]
    simp only [og_tr]
    rw [show nI j + 1 = nI (j + 1) from nI_addN j 1]
    by_cases hc : countF x (x.1 47 1) ≤ 0
    · have hany : anyF y (y.1 0 15) = false := by
        cases hq : anyF y (y.1 0 15) with
        | false => rfl
        | true => exact absurd hc (hac.mp hq)
      rw [hany, if_pos (show b2i false = 0 from rfl)]
      rw [if_pos hc, if_pos hc]
      obtain ⟨z', m', e1, e2, e3, e4⟩ := passF_ok hR (Or.inr rfl) hl (hl.ords hQ) 1
      rw [e1, ob_some1]
      have q21 : ∀ k, (mixX z' y 21).1 21 k = y.1 21 k := fun k => mix_n
      have hsave := Bk.c21 hR e2 (w := mixX z' y 21) (fun q k hq => mix_1 hq)
      rw [hB.s1]
      by_cases h3 : (30 : Int32) ≤ nI j
      · have hj30 : j = 30 := by have := (nI_leq (a := 30) (by decide) (by omega)).mp h3; omega
        subst hj30
        rw [if_pos h3]
        cases n with
        | zero => omega
        | succ n =>
          rw [du_s, if_pos (show (30 : Int32) < nI (30 + 1) by decide), if_neg (show ¬ nI (30 + 1) ≤ 30 by decide), i0, i1, i2]
          simp only [og_tr]
          obtain ⟨s1, s2, s3⟩ := rsM_s (mixX z' y 21)
          exact ⟨-1, landLook (nI m) x, _, rfl, rfl, back2 hR h hl e2 (fun k => (land_1 (by decide)).trans (h46 k)) e4 (fun k hk => mpass_0 hk _ _ _ e1) (fun q k h1 h2 => (rsM_1 h1 h2).trans (mix_1 h1)) (s1.trans ((q21 0).trans ha)) (s2.trans ((q21 1).trans hb)) (s3.trans ((q21 2).trans hd))⟩
      · rw [if_neg h3]
        have hj29 : j + 1 ≤ 30 := by
          rcases Nat.lt_or_ge j 30 with q | q
          · omega
          · exact absurd ((nI_leq (a := 30) (by decide) (by omega)).mpr q) h3
        exact du_loop hR hQ h n (j + 1) m' (passF 47 1 (landLook (nI m) x)) (mixX z' y 21) hsave (fun k => pass46.trans ((land_1 (by decide)).trans (h46 k))) ((q21 0).trans ha) ((q21 1).trans hb) ((q21 2).trans hd) hj29 (by omega)
    · have hany := hac.mpr hc
      rw [hany, if_neg (show ¬ b2i true = 0 by decide), if_neg hc, if_neg hc, hB.s1]
      obtain ⟨s1, s2, s3⟩ := rsM_s y
      have hend : Bk R (landLook (nI m) x) (rsM y) F S l r m0 := back46 hR h hl (fun k => (land_1 (by decide)).trans (h46 k)) (fun q k h1 h2 => rsM_1 h1 (by omega)) (s1.trans ha) (s2.trans hb) (s3.trans hd)
      by_cases h3 : (30 : Int32) ≤ nI j
      · have hj30 : j = 30 := by have := (nI_leq (a := 30) (by decide) (by omega)).mp h3; omega
        subst hj30
        rw [if_pos h3]
        exact ⟨30, _, _, rfl, rfl, hend⟩
      · rw [if_neg h3]
        exact ⟨nI j, _, _, rfl, rfl, hend⟩
theorem ag_until {R : XS → XS → Prop} (hR : Stab R) (hQ : OrdQ R) : AgN (IV R) f_X8_daysUntilPeace f_X10_daysUntilPeace := by
  rintro x z ⟨F, S, l, r, m, h⟩
  obtain ⟨i0, i1, i2⟩ := b03
  obtain ⟨v1, v2, v3⟩ := sv3_s z
  rw [du_eq, i0, i1, i2]
  simp only [og_tr]
  obtain ⟨v, x', w, e1, e2, e3⟩ := du_loop hR hQ h 40 0 m (ccopyF x) (sv3 z) (start47 hR h) (fun k => ccopy_1 (by decide)) v1 v2 v3 (by decide) (by decide)
  exact ⟨v, x', w, e1, e2, IVi e3⟩
