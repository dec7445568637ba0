/-! Feeding: twenty bytes in both -/
theorem byte_eq (u : Int32) : u.toInt8.toInt32 &&& 255 = u &&& 255 := by
  apply bit_ext
  intro j hj
  rw [bit_and, bit_and]
  by_cases h : j < 8
  · congr 1
    unfold bit
    show ((u.toBitVec.signExtend 8).signExtend 32).getLsbD j = u.toBitVec.getLsbD j
    rw [BitVec.getLsbD_signExtend, BitVec.getLsbD_signExtend]
    simp [h, hj]
  · have h255 : ∀ j, j < 32 → ¬ j < 8 → bit 255 j = false := by decide +kernel
    rw [h255 j hj h, Bool.and_false, Bool.and_false]
def shs (i : Nat) : Int32 := if i = 0 then 24 else if i = 1 then 24 + Int32.ofInt (-8) else if i = 2 then 24 + Int32.ofInt (-8) + Int32.ofInt (-8) else 24 + Int32.ofInt (-8) + Int32.ofInt (-8) + Int32.ofInt (-8)
def five (p q r s t : Int32) (i : Nat) : Int32 := if i = 0 then p else if i = 1 then q else if i = 2 then r else if i = 3 then s else t
def byF (w : Nat → Int32) (i : Nat) (x : XS) : XS := apF1 x (w (i / 4)) (shs (i % 4))
theorem app5 (p q r s t : Int32) (x : XS) : appendF (appendF (appendF (appendF (appendF x p) q) r) s) t = itP (byF (five p q r s t)) 20 x := by
  simp [itP, byF, appendF, five, shs]
theorem sh_ok : ∀ i, i < 20 → nI i / 4 = nI (i / 4) ∧ (24 - (8 * (nI i - nI i / 4 * 4))) &&& 31 = shs (i % 4) &&& 31 := by decide +kernel
theorem ap_eq {x : XS} {k : Nat} (h : x.1 1 1 = nI k) (hk : k < 2000) (v sh : Int32) : apF1 x v sh = setI (setI x 2 k (v >>> (sh &&& 31)).toInt8.toInt32) 1 1 (nI (k + 1)) := by
  unfold apF1
  rw [h, if_neg (nI_pos (by omega)), if_neg (nI_ge hk (by decide)), nI_clamp (by omega), show nI k + 1 = nI (k + 1) from nI_addN k 1]
theorem feed_loop {w : Nat → Int32} {N : Nat} (hN : N + 20 ≤ 2000) {x0 z0 : XS} : ∀ (n i : Nat) (z : XS), 20 - i < n → i ≤ 20 → (itP (byF w) i x0).1 1 1 = nI (N + i) → (∀ j, j < N + i → z.1 1 j = (itP (byF w) i x0).1 2 j &&& 255) → z.1 0 2 = nI N → (∀ k, k < 5 → z.1 21 k = w k) → (∀ q k, q ≠ 1 → q ≠ 21 → z.1 q k = z0.1 q k) →
    ∃ z', f_X10_feed_L51 n (nI i) z = some (nI (N + 20), z') ∧ TapR (itP (byF w) 20 x0) z' ∧ (itP (byF w) 20 x0).1 1 1 = nI (N + 20) ∧ ∀ q k, q ≠ 1 → q ≠ 21 → (q ≠ 0 ∨ k ≠ 2) → z'.1 q k = z0.1 q k
  | 0, _, _, h, _, _, _, _, _, _ => absurd h (Nat.not_lt_zero _)
  | n + 1, i, z, hn, hi, h1, h2, h3, h4, h5 => by
    rw [f_X10_feed_L51]
    by_cases hd : 20 ≤ i
    · have e : i = 20 := by omega
      subst e
      rw [if_pos (show (20 : Int32) ≤ nI 20 from (nI_leq (a := 20) (by decide) (by decide)).mpr (Nat.le_refl 20)), h3, show nI N + 20 = nI (N + 20) from nI_addN N 20, rdI_eq]
      refine ⟨_, rfl, ⟨N + 20, hN, h1, rdI_eq, fun k hk => (rdI_ne (by decide)).trans (h2 k hk)⟩, h1, fun q k a b c => ?_⟩
      rcases c with c | c
      · exact (rdI_ne c).trans (h5 q k a b)
      · exact (rdI_nk c).trans (h5 q k a b)
    · obtain ⟨s1, s2⟩ := sh_ok i (by omega)
      rw [if_neg (show ¬ (20 : Int32) ≤ nI i from fun h => hd ((nI_leq (a := 20) (by decide) (by omega)).mp h)), s2, s1, h3, nI_addN, inB_nI (show i / 4 < 5 by omega) (by decide), inB_nI (show N + i < 2000 by omega) (by decide), og_tr, og_tr, nI_clamp (show i / 4 < 2 ^ 31 by omega), nI_clamp (show N + i < 2 ^ 31 by omega), h4 _ (by omega), show nI i + 1 = nI (i + 1) from nI_addN i 1]
      have hs : itP (byF w) (i + 1) x0 = setI (setI (itP (byF w) i x0) 2 (N + i) (w (i / 4) >>> (shs (i % 4) &&& 31)).toInt8.toInt32) 1 1 (nI (N + i + 1)) := ap_eq h1 (by omega) _ _
      refine feed_loop hN n (i + 1) _ (by omega) (by omega) (by rw [hs]; exact rdI_eq) (fun j hj => ?_) ((rdI_ne (by decide)).trans h3) (fun k hk => (rdI_ne (by decide)).trans (h4 k hk)) (fun q k a b => (rdI_ne a).trans (h5 q k a b))
      by_cases e : j = N + i
      · rw [e, rdI_eq, hs, rdI_ne (show 2 ≠ 1 by decide), rdI_eq, byte_eq]
      · rw [rdI_nk e, hs, rdI_ne (show 2 ≠ 1 by decide), rdI_nk e]; exact h2 j (by omega)
theorem by_fr {w : Nat → Int32} {x : XS} {q k : Nat} (h1 : q ≠ 1) (h2 : q ≠ 2) (n : Nat) : (itP (byF w) n x).1 q k = x.1 q k :=
  itP_rel (P := fun _ (u : XS) => u.1 q k = x.1 q k) rfl (fun j _ u hu => by
    unfold byF apF1
    repeat' split
    · exact hu
    · exact hu
    · exact (rdI_ne h1).trans ((rdI_ne h2).trans hu))
theorem by_fr2 {w : Nat → Int32} {x : XS} (n : Nat) : (itP (byF w) n x).2 = x.2 :=
  itP_rel (P := fun _ (u : XS) => u.2 = x.2) rfl (fun j _ u hu => by
    unfold byF apF1
    repeat' split
    · exact hu
    · exact hu
    · exact hu)
theorem b05 : inB 0 5 = true ∧ inB 1 5 = true ∧ inB 2 5 = true ∧ inB 3 5 = true ∧ inB 4 5 = true := by decide
theorem ag_feed (p q r s t : Int32) : AgT (IV RR0) code1 cvI (fun E => E = "java/lang/IllegalStateException") (f_X8_feed p q r s t) (f_X10_feed p q r s t) := by
  rintro x z ⟨F, S, l, rr, m, h⟩
  have h0 := h.r0 RR0_st
  obtain ⟨n, n1, n2, n3, n4⟩ := h0.rest.1
  obtain ⟨i0, i1, i2, i3, i4⟩ := b05
  unfold f_X8_feed f_X10_feed
  rw [show setI z 0 0 0 = r0 z from rfl, n2, n3, i0, i1, i2, i3, i4, app5]
  by_cases hc : nI n ≤ 1980
  · have hN : n ≤ 1980 := (nI_leq (b := 1980) (by omega) (by decide)).mp hc
    rw [if_pos hc, if_pos hc]
    simp only [og_tr]
    have t5 : (0 : Int32).toNatClampNeg = 0 ∧ (1 : Int32).toNatClampNeg = 1 ∧ (2 : Int32).toNatClampNeg = 2 ∧ (3 : Int32).toNatClampNeg = 3 ∧ (4 : Int32).toNatClampNeg = 4 := by decide
    obtain ⟨t0, t1, t2, t3, t4⟩ := t5
    rw [t0, t1, t2, t3, t4]
    generalize hz5 : setI (setI (setI (setI (setI (clr (r0 z) 21) 21 0 p) 21 1 q) 21 2 r) 21 3 s) 21 4 t = z5
    have g : ∀ q k, q ≠ 21 → z5.1 q k = (r0 z).1 q k := fun a k ha => by
      rw [← hz5, rdI_ne ha, rdI_ne ha, rdI_ne ha, rdI_ne ha, rdI_ne ha]
      show (if a = 21 then 0 else (r0 z).1 a k) = _
      exact if_neg ha
    have gw : ∀ k, k < 5 → z5.1 21 k = five p q r s t k := fun k hk => by
      rw [← hz5]
      have hh : k = 0 ∨ k = 1 ∨ k = 2 ∨ k = 3 ∨ k = 4 := by omega
      rcases hh with rfl | rfl | rfl | rfl | rfl
      · rw [rdI_nk (by decide), rdI_nk (by decide), rdI_nk (by decide), rdI_nk (by decide), rdI_eq]; rfl
      · rw [rdI_nk (by decide), rdI_nk (by decide), rdI_nk (by decide), rdI_eq]; rfl
      · rw [rdI_nk (by decide), rdI_nk (by decide), rdI_eq]; rfl
      · rw [rdI_nk (by decide), rdI_eq]; rfl
      · rw [rdI_eq]; rfl
    obtain ⟨z', e1, e2, e3, e4⟩ := feed_loop (w := five p q r s t) (N := n) (x0 := x) (z0 := z5) (by omega) 30 0 z5 (by decide) (by decide) n2 (fun j hj => by rw [g 1 j (by decide)]; exact n4 j hj) (by rw [g 0 2 (by decide)]; exact n3) gw (fun _ _ _ _ => rfl)
    rw [e3]
    refine Or.inr ⟨_, _, _, rfl, e1, ?_, rfl, IVi (tape_mv h0 (fun a k a1 a2 => by_fr a1 a2 20) (by_fr2 20) (fun a k a1 a2 a3 => ?_) e2)⟩
    · show z'.1 0 0 = 0
      rw [e4 0 0 (by decide) (by decide) (by decide), g 0 0 (by decide)]; exact r00 z
    · rw [e4 a k a1 (by omega) (by omega), g a k (by omega)]
  · rw [if_neg hc, if_neg hc]
    exact Or.inl ⟨_, x, _, rfl, rfl, z00 _ _, rfl, IVi (h0.z0 RR0_st 1)⟩
