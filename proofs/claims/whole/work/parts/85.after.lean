/-! What stands after days, and peaces after days: the reference puts back what it kept -/
def sv0 (x : XS) : XS := clr (setI x 0 0 0) 21
def sv1 (x : XS) : XS := setI (sv0 x) 21 (0 : Int32).toNatClampNeg ((sv0 x).1 0 13)
def sv2 (x : XS) : XS := setI (sv1 x) 21 (1 : Int32).toNatClampNeg ((sv1 x).1 0 14)
def sv3 (x : XS) : XS := setI (sv2 x) 21 (2 : Int32).toNatClampNeg ((sv2 x).1 0 15)
def bkM (M : XS) : XS := mixX (setI (setI (setI M 0 13 (M.1 21 (0 : Int32).toNatClampNeg)) 0 14 (M.1 21 (1 : Int32).toNatClampNeg)) 0 15 (M.1 21 (2 : Int32).toNatClampNeg)) M 21
theorem sa_eq (p : Int32) (x : XS) : f_X10_standingAfter p x = (if (b2i (isInB p 1 30)) = 0 then some (0, (setI (setI x 0 0 0) 0 0 1)) else og (inB 0 3) (og (inB 1 3) (og (inB 2 3) (og (cdec (MOK (sv3 x))) (ob (mpassO p (sv3 x)) (fun u48 => og (inB 0 3) (og (inB 1 3) (og (inB 2 3) (some ((bcI ((mixX u48 (sv3 x) 21).1 0 15)), bkM (mixX u48 (sv3 x) 21))))))))))) := rfl
theorem pa_eq (p : Int32) (x : XS) : f_X10_peacesAfter p x = (if (b2i (isInB p 1 30)) = 0 then some (0, (setI (setI x 0 0 0) 0 0 1)) else og (inB 0 3) (og (inB 1 3) (og (inB 2 3) (og (cdec (MOK (sv3 x))) (ob (mpassO p (sv3 x)) (fun u48 => og (cdec (MOK (mixX u48 (sv3 x) 21))) (og (inB 0 3) (og (inB 1 3) (og (inB 2 3) (some (((mlook ((mixX u48 (sv3 x) 21).1 0 15) (mixX u48 (sv3 x) 21)).1 0 18), bkM (mixX (mlook ((mixX u48 (sv3 x) 21).1 0 15) (mixX u48 (sv3 x) 21)) (mixX u48 (sv3 x) 21) 21)))))))))))) := rfl
theorem tn3 : (0 : Int32).toNatClampNeg = 0 ∧ (1 : Int32).toNatClampNeg = 1 ∧ (2 : Int32).toNatClampNeg = 2 := by decide
theorem sv3_1 {z : XS} {q k : Nat} (h : q ≠ 21) : (sv3 z).1 q k = (r0 z).1 q k := (rdI_ne h).trans ((rdI_ne h).trans ((rdI_ne h).trans (if_neg h)))
theorem sv3_s (z : XS) : (sv3 z).1 21 0 = z.1 0 13 ∧ (sv3 z).1 21 1 = z.1 0 14 ∧ (sv3 z).1 21 2 = z.1 0 15 := by
  obtain ⟨t0, t1, t2⟩ := tn3
  have q0 : ∀ k, (sv0 z).1 0 k = (r0 z).1 0 k := fun k => (by show (if (0 : Nat) = 21 then 0 else (setI z 0 0 0).1 0 k) = _; exact if_neg (by decide))
  refine ⟨?_, ?_, ?_⟩
  · unfold sv3; rw [t2, rdI_nk (by decide)]; unfold sv2; rw [t1, rdI_nk (by decide)]; unfold sv1; rw [t0, rdI_eq, q0]; exact r01 (by decide)
  · unfold sv3; rw [t2, rdI_nk (by decide)]; unfold sv2; rw [t1, rdI_eq]; unfold sv1; rw [rdI_ne (by decide), q0]; exact r01 (by decide)
  · unfold sv3; rw [t2, rdI_eq]; unfold sv2; rw [rdI_ne (by decide)]; unfold sv1; rw [rdI_ne (by decide), q0]; exact r01 (by decide)
theorem bkM_1 {M : XS} {q k : Nat} (h : q ≠ 21) (h2 : q ≠ 0 ∨ (k ≠ 13 ∧ k ≠ 14 ∧ k ≠ 15)) : (bkM M).1 q k = M.1 q k := by
  unfold bkM
  rw [mix_1 h]
  rcases h2 with h2 | ⟨h3, h4, h5⟩
  · rw [rdI_ne h2, rdI_ne h2, rdI_ne h2]
  · rw [rdI_nk h5, rdI_nk h4, rdI_nk h3]
theorem bkM_s (M : XS) : (bkM M).1 0 13 = M.1 21 0 ∧ (bkM M).1 0 14 = M.1 21 1 ∧ (bkM M).1 0 15 = M.1 21 2 := by
  obtain ⟨t0, t1, t2⟩ := tn3
  unfold bkM
  rw [t0, t1, t2, mix_1 (by decide), mix_1 (by decide), mix_1 (by decide)]
  exact ⟨(rdI_nk (by decide)).trans ((rdI_nk (by decide)).trans rdI_eq), (rdI_nk (by decide)).trans rdI_eq, rdI_eq⟩
theorem ccopy_1 {x : XS} {q k : Nat} (h : q ≠ 47) : (ccopyF x).1 q k = x.1 q k := (rdI_ne h).trans ((rdI_ne h).trans (rdI_ne h))
theorem ccopy_s (x : XS) : (ccopyF x).1 47 0 = x.1 46 0 ∧ (ccopyF x).1 47 1 = x.1 46 1 ∧ (ccopyF x).1 47 2 = x.1 46 2 := by
  unfold ccopyF
  dsimp only
  refine ⟨?_, ?_, ?_⟩
  · rw [rdI_nk (by decide), rdI_nk (by decide), rdI_eq]
  · rw [rdI_nk (by decide), rdI_eq, rdI_ne (by decide)]
  · rw [rdI_eq, rdI_ne (by decide), rdI_ne (by decide)]
theorem start47 {R : XS → XS → Prop} (hR : Stab R) {x z : XS} {F S : Nat} {l r : Nat → Nat} {m : Nat} (h : Bk R x z F S l r m) : BkC R 47 (ccopyF x) (sv3 z) F S l r m := by
  have h0 := h.r0 hR
  obtain ⟨c0, c1, c2⟩ := ccopy_s x
  refine BkC.move2 hR (d := 47) (to46 h0) (fun q k h1 h2 => ccopy_1 h2) rfl (fun q k h1 h2 => sv3_1 h1) h.lm ?_ ?_ ?_ ?_
  · rw [c1, h.xs]
  · rw [sv3_1 (by decide), h0.zs]
  · rw [c0, sv3_1 (by decide), h0.dy]
  · rw [c2, sv3_1 (by decide), h0.co]
theorem BkC.ords {R : XS → XS → Prop} (hQ : OrdQ R) {c : Nat} {x z : XS} {F S : Nat} {l r : Nat → Nat} {m : Nat} (h : BkC R c x z F S l r m) : OrdsR x z F S :=
  OrdsR_of (fun q k hq => (ovr_1 (by omega)).symm) (fun _ _ _ => rfl) (Bk.ords hQ h)
theorem back46 {R : XS → XS → Prop} (hR : Stab R) {x z y u w : XS} {F S : Nat} {l r : Nat → Nat} {m m' : Nat} (h : Bk R x z F S l r m) (hB : BkC R 47 y u F S l r m') (hy : ∀ k, y.1 46 k = x.1 46 k) (hw : ∀ q k, q ≠ 21 → q ≠ 0 ∨ (k ≠ 0 ∧ k ≠ 13 ∧ k ≠ 14 ∧ k ≠ 15) → w.1 q k = u.1 q k) (e13 : w.1 0 13 = z.1 0 13) (e14 : w.1 0 14 = z.1 0 14) (e15 : w.1 0 15 = z.1 0 15) : Bk R y w F S l r m :=
  of46 (hB.move2 hR (d := 46) (fun _ _ _ _ => rfl) rfl hw h.lm ((hy 1).trans h.xs) (e15.trans h.zs) (by rw [hy, e13]; exact h.dy) (by rw [hy, e14]; exact h.co))
theorem day46 {x : XS} {k : Nat} : (dayF 47 x).1 46 k = x.1 46 k := by
  unfold dayF
  dsimp only
  rw [rdI_ne (by decide)]
  exact ords_1 (by unfold jq; omega) (by decide) _
theorem pass46 {p : Int32} {x : XS} {k : Nat} : (passF 47 p x).1 46 k = x.1 46 k :=
  itP_rel (f := fun _ => dayF 47) (P := fun _ (u : XS) => u.1 46 k = x.1 46 k) rfl (fun _ _ u hu => day46.trans hu)
theorem b03 : inB 0 3 = true ∧ inB 1 3 = true ∧ inB 2 3 = true := by decide
theorem ag_standingAfter {R : XS → XS → Prop} (hR : Stab R) (hQ : OrdQ R) (p : Int32) : AgT (IV R) code1 cvI (fun E => E = "java/lang/IllegalArgumentException") (f_X8_standingAfter p) (f_X10_standingAfter p) := by
  rintro x z ⟨F, S, l, r, m, h⟩
  have h0 := h.r0 hR
  obtain ⟨i0, i1, i2⟩ := b03
  rw [sa_eq, i0, i1, i2]
  unfold f_X8_standingAfter
  rcases needDy x p with ⟨d1, d2⟩ | ⟨d1, d2⟩
  · have hs := start47 hR h
    rw [d1, if_neg (b2i_n d2), cdec_t (Bk.mok hs)]
    simp only [og_tr]
    simp only [ob_some1, rbo_inr1]
    obtain ⟨z', m', e1, e2, e3, e4⟩ := passF_ok hR (Or.inr rfl) hs (hs.ords hQ) p
    rw [e1, ob_some1]
    obtain ⟨s1, s2, s3⟩ := bkM_s (mixX z' (sv3 z) 21)
    obtain ⟨v1, v2, v3⟩ := sv3_s z
    have hfr : ∀ q k, q ≠ 21 → q ≠ 0 ∨ (k ≠ 13 ∧ k ≠ 14 ∧ k ≠ 15) → (bkM (mixX z' (sv3 z) 21)).1 q k = z'.1 q k := fun q k h1 h2 => (bkM_1 h1 h2).trans (mix_1 h1)
    refine Or.inr ⟨_, _, _, rfl, rfl, ?_, ?_, IVi (back46 hR h e2 (fun k => pass46.trans (ccopy_1 (by decide))) (fun q k h1 h2 => hfr q k h1 (by omega)) ?_ ?_ ?_)⟩
    · show (bkM (mixX z' (sv3 z) 21)).1 0 0 = 0
      rw [hfr 0 0 (by decide) (by decide), mpass_00 _ _ _ e1, sv3_1 (by decide)]; exact r00 z
    · show cvI (bcI ((passF 47 p (ccopyF x)).1 47 1)) = cvI (bcI ((mixX z' (sv3 z) 21).1 0 15))
      rw [mix_1 (by decide), e2.s1, Bk.zs e2]
    · exact s1.trans (mix_n.trans v1)
    · exact s2.trans (mix_n.trans v2)
    · exact s3.trans (mix_n.trans v3)
  · rw [d1, if_pos (b2i_f d2)]
    exact Or.inl ⟨_, x, _, rfl, rfl, z00 _ _, rfl, IVi (h0.z0 hR 1)⟩
theorem ag_peacesAfter {R : XS → XS → Prop} (hR : Stab R) (hQ : OrdQ R) (p : Int32) : AgT (IV R) code1 cvI (fun E => E = "java/lang/IllegalArgumentException") (f_X8_peacesAfter p) (f_X10_peacesAfter p) := by
  rintro x z ⟨F, S, l, r, m, h⟩
  have h0 := h.r0 hR
  obtain ⟨i0, i1, i2⟩ := b03
  rw [pa_eq, i0, i1, i2]
  unfold f_X8_peacesAfter
  rcases needDy x p with ⟨d1, d2⟩ | ⟨d1, d2⟩
  · have hs := start47 hR h
    rw [d1, if_neg (b2i_n d2), cdec_t (Bk.mok hs)]
    simp only [og_tr]
    simp only [ob_some1, rbo_inr1]
    obtain ⟨z', m', e1, e2, e3, e4⟩ := passF_ok hR (Or.inr rfl) hs (hs.ords hQ) p
    rw [e1, ob_some1]
    have e5 : BkC R 47 (passF 47 p (ccopyF x)) (mixX z' (sv3 z) 21) F S l r m' := Bk.c21 hR e2 (fun q k hq => mix_1 hq)
    have M0 : (mixX z' (sv3 z) 21).1 0 0 = 0 := by rw [mix_1 (by decide), mpass_00 _ _ _ e1, sv3_1 (by decide)]; exact r00 z
    have Ms : ∀ k, (mixX z' (sv3 z) 21).1 21 k = (sv3 z).1 21 k := fun k => mix_n
    have hx46 : ∀ k, (passF 47 p (ccopyF x)).1 46 k = x.1 46 k := fun k => pass46.trans (ccopy_1 (by decide))
    rw [cdec_t (Bk.mok e5), og_tr]
    generalize mixX z' (sv3 z) 21 = M at e5 M0 Ms
    generalize passF 47 p (ccopyF x) = X at e5 hx46
    obtain ⟨l1, l2⟩ := Bk.lookz hR e5
    have l1' : BkC R 47 X (mlook (M.1 0 15) M) F S l r m' := l1
    have l3 := l1'.land2 hR (Or.inr rfl) (Bk.ne e5)
    have l4 : BkC R 47 (landLook (nI m') X) (mixX (mlook (M.1 0 15) M) M 21) F S l r m' := Bk.c21 hR l3 (fun q k hq => mix_1 hq)
    have hcnt := count_eq e5.x1 e5.p1 e5.l1 (Bk.ne e5)
    obtain ⟨s1, s2, s3⟩ := bkM_s (mixX (mlook (M.1 0 15) M) M 21)
    obtain ⟨v1, v2, v3⟩ := sv3_s z
    rw [e5.s1, hcnt, l2.1]
    refine Or.inr ⟨_, _, _, rfl, rfl, ?_, rfl, IVi (back46 hR h l4 (fun k => (land_1 (by decide)).trans (hx46 k)) (fun q k h1 h2 => bkM_1 h1 (by omega)) ?_ ?_ ?_)⟩
    · show (bkM (mixX (mlook (M.1 0 15) M) M 21)).1 0 0 = 0
      rw [bkM_1 (by decide) (by decide), mix_1 (by decide), mlook_00]; exact M0
    · exact s1.trans (mix_n.trans ((Ms 0).trans v1))
    · exact s2.trans (mix_n.trans ((Ms 1).trans v2))
    · exact s3.trans (mix_n.trans ((Ms 2).trans v3))
  · rw [d1, if_pos (b2i_f d2)]
    exact Or.inl ⟨_, x, _, rfl, rfl, z00 _ _, rfl, IVi (h0.z0 hR 1)⟩
