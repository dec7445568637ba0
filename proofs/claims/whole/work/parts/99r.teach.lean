/-! Teaching: both agree -/
/-- a text that is refused: the old book stays -/
theorem refuse {x z y w : XS} {F S : Nat} {l r : Nat → Nat} {m : Nat} (h : Bk RR0 x z F S l r m) (hx : ∀ q k, 21 ≤ q → q ≠ 34 → y.1 q k = x.1 q k) (hx2 : ∀ q k, 37 ≤ q ∨ q = 4 → y.2 q k = x.2 q k) (hz : ∀ q k, (7 ≤ q ∧ q ≤ 20) ∨ (q = 0 ∧ 13 ≤ k) → w.1 q k = z.1 q k) (hy1 : y.1 1 1 = 0) (hw2 : w.1 0 2 = 0) (he : y.1 0 10 = w.1 0 3) : Bk RR0 y w F S l r m := by
  refine ⟨BkX_of (fun q k hq => hx q k (by omega) (by omega)) h.bx, BkZ_of (fun q k hq => hz q k (by omega)) h.bz, PeaB_of (hx _ _ (by decide) (by decide)) (fun k => by rw [hx2 _ _ (by omega)]) h.pea, fun k hk => ?_, h.lm, by rw [hx _ _ (by decide) (by decide)]; exact h.xs, by rw [hz _ _ (by omega)]; exact h.zs, by rw [hx _ _ (by decide) (by decide), hz _ _ (by omega)]; exact h.dy, by rw [hx _ _ (by decide) (by decide), hz _ _ (by omega)]; exact h.co, ?_, ?_, ?_, ?_, ⟨0, by omega, hy1, hw2, fun k hk => absurd hk (Nat.not_lt_zero _)⟩, he, ?_, ?_, fun k => by rw [hx2 _ _ (by omega)]; exact h.rest.2.2.2.2 k⟩
  · rw [kind_eq (z := z) (fun i => hz 12 i (by omega)), hx _ _ (by decide) (by decide), hx _ _ (by decide) (by decide), hx _ _ (by decide) (by decide), hz 13 k (by omega), hz 14 k (by omega)]
    exact h.kin k hk
  · rw [hx _ _ (by decide) (by decide)]; exact h.web.imp id (WebC_of (fun q k hq => hx q k (by omega) (by omega)))
  · rw [hx _ _ (by decide) (by decide)]; exact h.land.imp id (LandC_of (hx _ _ (by decide) (by decide)) (fun k => by rw [hx2 _ _ (by omega)]))
  · rw [hz _ _ (by omega)]; exact h.fol.imp id (FolC_of (fun k => hz _ _ (by omega)) (hz _ _ (by omega)))
  · rw [hz _ _ (by omega)]; exact h.look.imp id (LookC_of (fun k => hz _ _ (by omega)) (fun k hk => hz _ _ (by omega)))
  · exact OrdX_of (fun q k hq => hx q k (by omega) (by omega)) (fun q k hq => hz q k (by omega)) h.rest.2.2.1
  · rw [hx _ _ (by decide) (by decide), hz _ _ (by omega)]; exact h.rest.2.2.2.1
/-- a text that is taken: the new book -/
theorem take_in {Y v w : XS} {cf : Nat → Int32} {P c e F S O : Nat} (hq : LQ Y w cf P c e F S O) (hc : Y.1 8 12 = nI c) (hcl : c ≤ 400) (hel : e ≤ 800) (v0 : v.1 21 0 = nI F) (v1 : v.1 21 1 = nI S) (v5 : v.1 21 5 = nI O) (v22 : ∀ q k, 22 ≤ q → q ≤ 26 → v.1 q k = (p2 (w.1 5) (w.1 2) (Y.2 7) P).1 q k) (v27 : ∀ q k, q = 27 ∨ q = 28 → v.1 q k = w.1 q k) (v29 : ∀ i, i < e → v.1 29 i = cf i)
    (hy1 : Y.1 1 1 = 0) (hv3 : v.1 0 3 = -1) (hky : KeyR Y) : ∃ l r m, Bk RR0 (startF (setI Y 0 10 (-1))) (teachS (setI v 0 2 0)) F S l r m := by
  obtain ⟨⟨-, hF, hF8, -⟩, ⟨-, hS, hS8, -⟩, ⟨-, hO, hO8⟩, hst, hor⟩ := hq
  -- the class
  have Y8 : ∀ k, (setI Y 0 10 (-1)).1 8 k = Y.1 8 k := fun k => rdI_ne (by decide)
  obtain ⟨⟨c0, c1, c7⟩, cs, co, cc, cn, c2⟩ := copy_ok (x := setI Y 0 10 (-1)) (S := S) (O := O) (c := c) (by rw [Y8]; exact hS8) hS (by rw [Y8]; exact hO8) hO (by rw [Y8]; exact hc) hcl
  rw [Y8, hF8] at c0
  have c2' : (copyF (setI Y 0 10 (-1))).2 = Y.2 := c2
  have cs' : ∀ q k, 9 ≤ q → q ≤ 13 → k < S → (copyF (setI Y 0 10 (-1))).1 (q + 13) k = Y.1 q k := fun q k a b d => (cs q k a b d).trans (rdI_ne (by omega))
  have co' : ∀ q k, 14 ≤ q → q ≤ 17 → k < O → (copyF (setI Y 0 10 (-1))).1 (q + 13) k = Y.1 q k := fun q k a b d => (co q k a b d).trans (rdI_ne (by omega))
  have cc' : ∀ q k, 18 ≤ q → q ≤ 20 → k < c → (copyF (setI Y 0 10 (-1))).1 (q + 13) k = Y.1 q k := fun q k a b d => (cc q k a b d).trans (rdI_ne (by omega))
  have cz : (copyF (setI Y 0 10 (-1))).1 0 10 = -1 := (cn 0 10 (by omega)).trans rdI_eq
  have c11 : (copyF (setI Y 0 10 (-1))).1 1 1 = 0 := (cn 1 1 (by omega)).trans ((rdI_ne (by decide)).trans hy1)
  unfold startF
  generalize copyF (setI Y 0 10 (-1)) = C at *
  -- claims
  let l : Nat → Nat := fun k => (Y.1 12 k).toNatClampNeg
  let r : Nat → Nat := fun k => (Y.1 13 k).toNatClampNeg
  have hlr : ∀ k, k < S → l k < 2 * F ∧ r k < 2 * F ∧ Y.1 12 k = nI (l k) ∧ Y.1 13 k = nI (r k) := by
    intro k hk
    obtain ⟨a, b, a1, a2, a3, a4, a5, a6, a7, a8, a9⟩ := hst k hk
    obtain ⟨m1, m2, m3⟩ := (lef_lt a7 hF a1).1
    obtain ⟨k1, k2, k3⟩ := (lef_lt a7 hF a2).2
    have e1 : Y.1 12 k = nI m1 := a8.trans m3
    have e2 : Y.1 13 k = nI k1 := a9.trans k3
    have e3 : l k = m1 := by show (Y.1 12 k).toNatClampNeg = m1; rw [e1, nI_clamp (by omega)]
    have e4 : r k = k1 := by show (Y.1 13 k).toNatClampNeg = k1; rw [e2, nI_clamp (by omega)]
    exact ⟨by omega, by omega, by rw [e3]; exact e1, by rw [e4]; exact e2⟩
  have hBX : BkX (setI C 37 5 (-1)) F S l r := ⟨hF, hS, (rdI_ne (by decide)).trans c0, (rdI_ne (by decide)).trans c1, fun k hk => ⟨(hlr k hk).1, (hlr k hk).2.1⟩, fun k hk => ⟨by rw [rdI_ne (by decide)]; exact (cs' 12 k (by decide) (by decide) hk).trans (hlr k hk).2.2.1, by rw [rdI_ne (by decide)]; exact (cs' 13 k (by decide) (by decide) hk).trans (hlr k hk).2.2.2⟩⟩
  obtain ⟨p1, p2', p3, p4⟩ := prep_ok hBX
  have p21 : (prepF (setI C 37 5 (-1))).1 21 1 = nI S := (p3 _ _ (by decide)).trans ((rdI_ne (by decide)).trans c1)
  have pC : ∀ q k, q ≠ 40 → q ≠ 37 → (prepF (setI C 37 5 (-1))).1 q k = C.1 q k := fun q k a b => (p3 q k a).trans (rdI_ne b)
  have p37 : (prepF (setI C 37 5 (-1))).1 37 5 = -1 := (p3 _ _ (by decide)).trans rdI_eq
  have pl : ∀ k, (prepF (setI C 37 5 (-1))).2 4 k = Y.2 4 k := fun k => (p4 4 k (by decide)).trans (by show C.2 4 k = _; rw [c2'])
  generalize prepF (setI C 37 5 (-1)) = X at *
  rw [p21]
  have bX : ∀ q k, q ≠ 46 → (beginF X (nI S)).1 q k = X.1 q k := fun q k a => by unfold beginF; rw [rdI_ne a, rdI_ne a, rdI_ne a]
  have bX2 : (beginF X (nI S)).2 = X.2 := rfl
  have b0 : (beginF X (nI S)).1 46 0 = 0 := by unfold beginF; rw [rdI_nk (by decide), rdI_nk (by decide), rdI_eq]
  have b1 : (beginF X (nI S)).1 46 1 = nI (2 ^ S - 1) := by unfold beginF; rw [rdI_nk (by decide), rdI_eq]; exact all_m S hS
  have b2 : (beginF X (nI S)).1 46 2 = 0 := by unfold beginF; exact rdI_eq
  generalize beginF X (nI S) = B at *
  have BC : ∀ q k, q ≠ 46 → q ≠ 40 → q ≠ 37 → B.1 q k = C.1 q k := fun q k a b d => (bX q k a).trans (pC q k b d)
  -- the reference
  have rT : ∀ q k, 11 ≤ q → q ≤ 20 → (teachS (setI v 0 2 0)).1 q k = v.1 (q + 10) k := fun q k a b => by
    unfold teachS
    dsimp only
    rw [rdI_ne (by omega), rdI_ne (by omega), rdI_ne (by omega), rdI_ne (by omega), rdI_ne (by omega)]
    show (if 11 ≤ q ∧ q ≤ 20 then (setI v 0 2 0).1 (q + 10) k else _) = _
    rw [if_pos ⟨a, b⟩, rdI_ne (by omega)]
  have r0 : ∀ k, k ≠ 13 → k ≠ 14 → k ≠ 15 → k ≠ 17 → k ≠ 22 → (teachS (setI v 0 2 0)).1 0 k = (setI v 0 2 0).1 0 k := fun k a b d f g => by
    unfold teachS
    dsimp only
    rw [rdI_nk g, rdI_nk f, rdI_nk d, rdI_nk b, rdI_nk a]; rfl
  have r13 : (teachS (setI v 0 2 0)).1 0 13 = 0 := by unfold teachS; dsimp only; rw [rdI_nk (by decide), rdI_nk (by decide), rdI_nk (by decide), rdI_nk (by decide), rdI_eq]
  have r14 : (teachS (setI v 0 2 0)).1 0 14 = 0 := by unfold teachS; dsimp only; rw [rdI_nk (by decide), rdI_nk (by decide), rdI_nk (by decide), rdI_eq]
  have r17 : (teachS (setI v 0 2 0)).1 0 17 = -1 := by unfold teachS; dsimp only; rw [rdI_nk (by decide), rdI_eq]
  have r22 : (teachS (setI v 0 2 0)).1 0 22 = -1 := by unfold teachS; exact rdI_eq
  have r15 : (teachS (setI v 0 2 0)).1 0 15 = nI (2 ^ S - 1) := by
    unfold teachS
    dsimp only
    rw [rdI_nk (by decide), rdI_nk (by decide), rdI_eq, rdI_ne (by decide), rdI_ne (by decide)]
    have : (reT (setI v 0 2 0)).1 11 1 = nI S := by
      show (setI v 0 2 0).1 21 1 = _
      rw [rdI_ne (by decide)]; exact v1
    rw [this]; exact all_m S hS
  have r3 := (r0 3 (by decide) (by decide) (by decide) (by decide) (by decide)).trans ((rdI_nk (by decide)).trans hv3)
  have r2 := (r0 2 (by decide) (by decide) (by decide) (by decide) (by decide)).trans rdI_eq
  generalize teachS (setI v 0 2 0) = Z at *
  have Z12 : ∀ k, Z.1 12 k = (p2 (w.1 5) (w.1 2) (Y.2 7) P).1 22 k := fun k => (rT 12 k (by decide) (by decide)).trans (v22 22 k (by decide) (by decide))
  have Z13 : ∀ k, Z.1 13 k = (p2 (w.1 5) (w.1 2) (Y.2 7) P).1 23 k := fun k => (rT 13 k (by decide) (by decide)).trans (v22 23 k (by decide) (by decide))
  have Z14 : ∀ k, Z.1 14 k = (p2 (w.1 5) (w.1 2) (Y.2 7) P).1 24 k := fun k => (rT 14 k (by decide) (by decide)).trans (v22 24 k (by decide) (by decide))
  have ZF : Z.1 11 0 = nI F := (rT 11 0 (by decide) (by decide)).trans v0
  have ZS : Z.1 11 1 = nI S := (rT 11 1 (by decide) (by decide)).trans v1
  have ZO : Z.1 11 5 = nI O := (rT 11 5 (by decide) (by decide)).trans v5
  have BO : B.1 21 7 = nI O := (BC 21 7 (by decide) (by decide) (by decide)).trans c7
  refine ⟨l, r, 2 ^ S - 1, BkX_of (fun q k hq => (bX q k (by omega)).trans (p3 q k (by omega))) hBX, ⟨hF, hS, ZF, ZS, hBX.2.2.2.2.1, fun k hk => ?_⟩, PeaB_of (bX _ _ (by decide)) (fun k => by rw [bX2]) p1, fun k hk => ?_, ?_, b1, r15, b0.trans r13.symm, b2.trans r14.symm, Or.inl ((bX _ _ (by decide)).trans p37), Or.inl ((bX _ _ (by decide)).trans p2'), Or.inl r22, Or.inl r17, ⟨0, by omega, (BC 1 1 (by decide) (by decide) (by decide)).trans c11, r2, fun k hk => absurd hk (Nat.not_lt_zero _)⟩, ((BC 0 10 (by decide) (by decide) (by decide)).trans cz).trans r3.symm, ?_, BO.trans ZO.symm, fun k => by rw [bX2, pl]; exact hky k⟩
  · obtain ⟨a, b, a1, a2, a3, a4, a5, a6, a7, a8, a9⟩ := hst k hk
    rw [lef_ok a7 (Z12 k) ((Z13 k).trans a5) (by omega), rig_ok a7 (Z12 k) ((Z14 k).trans a6) (by omega), ← a8, ← a9]
    exact ⟨(hlr k hk).2.2.1, (hlr k hk).2.2.2⟩
  · obtain ⟨a, b, a1, a2, a3, a4, a5, a6, a7, a8, a9⟩ := hst k hk
    refine ⟨?_, ?_, ?_⟩
    · rw [BC 22 k (by decide) (by decide) (by decide), show (22 : Nat) = 9 + 13 from rfl, cs' 9 k (by decide) (by decide) hk]; exact kin_ok a7 (Z12 k) (by omega)
    · rw [BC 23 k (by decide) (by decide) (by decide), show (23 : Nat) = 10 + 13 from rfl, cs' 10 k (by decide) (by decide) hk, Z13, a3, a5]
    · rw [BC 24 k (by decide) (by decide) (by decide), show (24 : Nat) = 11 + 13 from rfl, cs' 11 k (by decide) (by decide) hk, Z14, a4, a6]
  · have : 0 < 2 ^ S := Nat.two_pow_pos S
    omega
  · intro F' S' hF' hS' e1 e2
    have f1 : F' = F := by
      have : B.1 21 0 = nI F := (BC 21 0 (by decide) (by decide) (by decide)).trans c0
      rw [this] at e1
      exact ((nI_inj (by omega) (by omega)).mp e1).symm
    have f2 : S' = S := by
      have : B.1 21 1 = nI S := (BC 21 1 (by decide) (by decide) (by decide)).trans c1
      rw [this] at e2
      exact ((nI_inj (by omega) (by omega)).mp e2).symm
    subst f1; subst f2
    refine ⟨O, hO, BO, ZO, fun j hj => ?_⟩
    obtain ⟨a, n, s, f, t, a1, a2, a3, a4, a5, a6, a7, a8, a9, a10, a11, a12⟩ := hor j hj
    refine ⟨a, n, s, f, t, ?_, ?_, by omega, ?_, ?_, a6, by omega, ?_, a9, ?_, ?_, ?_⟩
    · rw [BC 29 j (by decide) (by decide) (by decide), show (29 : Nat) = 16 + 13 from rfl, co' 16 j (by decide) (by decide) hj]; exact a1
    · rw [BC 30 j (by decide) (by decide) (by decide), show (30 : Nat) = 17 + 13 from rfl, co' 17 j (by decide) (by decide) hj]; exact a2
    · rw [rT 17 j (by decide) (by decide), v27 27 j (Or.inl rfl)]; exact a4
    · rw [rT 18 j (by decide) (by decide), v27 28 j (Or.inr rfl)]; exact a5
    · refine a8.imp id (fun ⟨g1, g2⟩ => ⟨g1, ?_⟩)
      have := pre_code (y := B) (w := Z) (e := f) (c := c) (fun q k b1 b2 b3 => by rw [BC (q + 13) k (by omega) (by omega) (by omega)]; exact cc' q k b1 b2 b3) (fun i hi => (rT 19 i (by decide) (by decide)).trans (v29 i (by omega))) (n := n) (m := 0) a3 (Nat.le_refl _) g2 ⟨rfl, rfl⟩
      exact this
    · rw [BC 28 j (by decide) (by decide) (by decide), show (28 : Nat) = 15 + 13 from rfl, co' 15 j (by decide) (by decide) hj]; exact a10
    · rw [rT 16 j (by decide) (by decide), v22 26 j (by decide) (by decide)]; exact a11
    · rw [BC 27 j (by decide) (by decide) (by decide), show (27 : Nat) = 14 + 13 from rfl, co' 14 j (by decide) (by decide) hj, rT 15 j (by decide) (by decide), v22 25 j (by decide) (by decide)]; exact a12
