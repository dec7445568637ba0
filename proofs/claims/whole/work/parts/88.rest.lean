/-! The rest of the invariant: tape, error, orders, words -/
def TapR (x z : XS) : Prop := ∃ n, n ≤ 2000 ∧ x.1 1 1 = nI n ∧ z.1 0 2 = nI n ∧ ∀ k, k < n → z.1 1 k = x.1 2 k &&& 255
def KeyR (x : XS) : Prop := ∀ k, x.2 4 k = (i_X8_init (clr x00 0)).2 4 k
def OrdX (x z : XS) : Prop := ∀ F S, F ≤ 10 → S ≤ 20 → x.1 21 0 = nI F → x.1 21 1 = nI S → OrdsR x z F S
def RR0 (x z : XS) : Prop := TapR x z ∧ x.1 0 10 = z.1 0 3 ∧ OrdX x z ∧ x.1 21 7 = z.1 11 5 ∧ KeyR x
theorem OrdsR_of2 {x z y w : XS} {F S : Nat} (h1 : ∀ q k, q = 21 ∨ (27 ≤ q ∧ q ≤ 33) → y.1 q k = x.1 q k) (h2 : ∀ q k, q = 11 ∨ (15 ≤ q ∧ q ≤ 19) → w.1 q k = z.1 q k) (h : OrdsR x z F S) : OrdsR y w F S := by
  obtain ⟨O, a1, a2, a3, a4⟩ := h
  exact ⟨O, a1, by rw [h1 _ _ (by omega)]; exact a2, by rw [h2 11 5 (by omega)]; exact a3, fun j hj => OrdR_of (fun q k hq => h1 q k (by omega)) (fun q k hq => h2 q k (by omega)) (a4 j hj)⟩
theorem OrdX_of {x z y w : XS} (h1 : ∀ q k, q = 21 ∨ (27 ≤ q ∧ q ≤ 33) → y.1 q k = x.1 q k) (h2 : ∀ q k, q = 11 ∨ (15 ≤ q ∧ q ≤ 19) → w.1 q k = z.1 q k) (h : OrdX x z) : OrdX y w := fun F S hF hS e1 e2 =>
  OrdsR_of2 h1 h2 (h F S hF hS (by rw [← h1 _ _ (by omega)]; exact e1) (by rw [← h1 _ _ (by omega)]; exact e2))
theorem RR0_st : Stab RR0 := by
  intro x z y w ⟨⟨n, a1, a2, a3, a4⟩, b, c, d, e⟩ hx hz
  have hx1 : ∀ q, q < 37 → ∀ k, y.1 q k = x.1 q k := fun q hq k => (hx q hq k).1
  refine ⟨⟨n, a1, by rw [hx1 1 (by decide)]; exact a2, by rw [hz.2.1]; exact a3, fun k hk => by rw [hz.1 1 k (by omega), hx1 2 (by decide)]; exact a4 k hk⟩, by rw [hx1 0 (by decide), hz.2.2]; exact b, OrdX_of (fun q k hq => hx1 q (by omega) k) (fun q k hq => hz.1 q k (by omega)) c, by rw [hx1 21 (by decide), hz.1 11 5 (by omega)]; exact d, fun k => (hx 4 (by decide) k).2.trans (e k)⟩
theorem RR0_q : OrdQ RR0 := fun _ _ F S h hF hS e1 e2 => h.2.2.1 F S hF hS e1 e2
/-- the tapes move, all else stays -/
theorem tape_mv {x z y w : XS} {F S : Nat} {l r : Nat → Nat} {m : Nat} (h : Bk RR0 x z F S l r m) (hx : ∀ q k, q ≠ 1 → q ≠ 2 → y.1 q k = x.1 q k) (hx2 : y.2 = x.2) (hz : ∀ q k, q ≠ 1 → q < 21 → (q ≠ 0 ∨ (k ≠ 0 ∧ k ≠ 2)) → w.1 q k = z.1 q k) (hT : TapR y w) : Bk RR0 y w F S l r m := by
  refine ⟨BkX_of (fun q k hq => hx q k (by omega) (by omega)) h.bx, BkZ_of (fun q k hq => hz q k (by omega) (by omega) (by omega)) h.bz, PeaB_of (hx _ _ (by decide) (by decide)) (fun k => by rw [hx2]) h.pea, fun k hk => ?_, h.lm, by rw [hx _ _ (by decide) (by decide)]; exact h.xs, by rw [hz _ _ (by omega) (by omega) (by omega)]; exact h.zs, by rw [hx _ _ (by decide) (by decide), hz _ _ (by omega) (by omega) (by omega)]; exact h.dy, by rw [hx _ _ (by decide) (by decide), hz _ _ (by omega) (by omega) (by omega)]; exact h.co, ?_, ?_, ?_, ?_, hT, ?_, ?_, ?_, fun k => by rw [hx2]; exact h.rest.2.2.2.2 k⟩
  · rw [kind_eq (z := z) (fun i => hz 12 i (by omega) (by omega) (by omega)), hx _ _ (by decide) (by decide), hx _ _ (by decide) (by decide), hx _ _ (by decide) (by decide), hz 13 k (by omega) (by omega) (by omega), hz 14 k (by omega) (by omega) (by omega)]
    exact h.kin k hk
  · rw [hx _ _ (by decide) (by decide)]; exact h.web.imp id (WebC_of (fun q k hq => hx q k (by omega) (by omega)))
  · rw [hx _ _ (by decide) (by decide)]; exact h.land.imp id (LandC_of (hx _ _ (by decide) (by decide)) (fun k => by rw [hx2]))
  · rw [hz _ _ (by omega) (by omega) (by omega)]; exact h.fol.imp id (FolC_of (fun k => hz _ _ (by omega) (by omega) (by omega)) (hz _ _ (by omega) (by omega) (by omega)))
  · rw [hz _ _ (by omega) (by omega) (by omega)]; exact h.look.imp id (LookC_of (fun k => hz _ _ (by omega) (by omega) (by omega)) (fun k hk => hz _ _ (by omega) (by omega) (by omega)))
  · rw [hx _ _ (by decide) (by decide), hz _ _ (by omega) (by omega) (by omega)]; exact h.rest.2.1
  · exact OrdX_of (fun q k hq => hx q k (by omega) (by omega)) (fun q k hq => hz q k (by omega) (by omega) (by omega)) h.rest.2.2.1
  · rw [hx _ _ (by decide) (by decide), hz _ _ (by omega) (by omega) (by omega)]; exact h.rest.2.2.2.1
theorem ag_trim (p : Int32) : AgT (IV RR0) code1 cvI (fun E => E = "java/lang/IllegalArgumentException") (f_X8_trim p) (f_X10_trim p) := by
  rintro x z ⟨F, S, l, r, m, h⟩
  have h0 := h.r0 RR0_st
  obtain ⟨n, n1, n2, n3, n4⟩ := h0.rest.1
  unfold f_X8_trim f_X10_trim
  rw [show setI z 0 0 0 = r0 z from rfl, n2, n3]
  have bad : isInB p 0 (nI n) = false → ∀ E, E = "java/lang/IllegalArgumentException" → (∃ (E : String) (x1 : XS) (w : Int32 × XS), (some (.inl ("java/lang/IllegalArgumentException", x)) : Option RT) = some (.inl (E, x1)) ∧ (if b2i (isInB p 0 (nI n)) = 0 then some (0, setI (r0 z) 0 0 1) else some (p, setI (r0 z) 0 2 p)) = some w ∧ w.2.1 0 0 = code1 E ∧ E = "java/lang/IllegalArgumentException" ∧ IV RR0 x1 w.2) := fun hb E _ => by
    rw [hb, if_pos (show b2i false = 0 from rfl)]
    exact ⟨_, x, _, rfl, rfl, z00 _ _, rfl, IVi (h0.z0 RR0_st 1)⟩
  by_cases h1 : p < 0
  · rw [if_pos h1]
    exact Or.inl (bad (by unfold isInB; rw [if_pos h1]) _ rfl)
  · rw [if_neg h1]
    by_cases h2 : p ≤ nI n
    · rw [if_pos h2]
      have h3 : ¬ nI n < p := fun q => by rw [Int32.le_iff_toInt_le] at h2; rw [Int32.lt_iff_toInt_lt] at q; omega
      have hb : isInB p 0 (nI n) = true := by unfold isInB; rw [if_neg h1, if_neg h3]
      rw [if_neg (b2i_n hb)]
      have hk : ∃ k, p = nI k ∧ k ≤ n := by
        have e := nI_toInt (show n < 2 ^ 31 by omega)
        rw [Int32.le_iff_toInt_le, e] at h2
        have h1' : ¬ p.toInt < 0 := fun q => h1 (by rw [Int32.lt_iff_toInt_lt]; exact q)
        refine ⟨p.toInt.toNat, ?_, by omega⟩
        apply Int32.toInt_inj.mp
        rw [nI_toInt (by omega)]
        omega
      obtain ⟨k, rfl, hk⟩ := hk
      refine Or.inr ⟨_, _, _, rfl, rfl, ?_, rfl, IVi (tape_mv h0 (fun q j a _ => rdI_ne a) rfl (fun q j a _ c => ?_) ⟨k, by omega, rdI_eq, rdI_eq, fun i hi => ?_⟩)⟩
      · show (setI (r0 z) 0 2 (nI k)).1 0 0 = 0
        rw [rdI_nk (by decide)]; exact r00 z
      · rcases c with c | c
        · exact rdI_ne c
        · exact rdI_nk c.2
      · rw [rdI_ne (by decide), rdI_ne (by decide)]; exact n4 i (by omega)
    · rw [if_neg h2]
      have h3 : nI n < p := by rw [Int32.le_iff_toInt_le] at h2; rw [Int32.lt_iff_toInt_lt]; omega
      exact Or.inl (bad (by unfold isInB; rw [if_neg h1, if_pos h3]) _ rfl)
