/-! What is still to be shown of the two, in one place -/
theorem iv_cong {R : XS → XS → Prop} (hR : Stab R) : Cong (IV R) := by
  rintro x z x' z' ⟨F, S, l, r, m, h⟩ hx hz
  have a1 : ∀ q, q < 48 → ∀ k, x'.1 q k = x.1 q k := fun q hq k => (hx q hq k).1
  have a2 : ∀ q, q < 48 → ∀ k, x'.2 q k = x.2 q k := fun q hq k => (hx q hq k).2
  have b1 : ∀ q, q < 21 → ∀ k, z'.1 q k = z.1 q k := fun q hq k => (hz q hq k).1
  have h1 : Bk R x' z F S l r m := by
    refine h.atX hR (fun q hq k => ⟨a1 q (by omega) k, a2 q (by omega) k⟩) (fun k => a1 46 (by decide) k) (a1 40 (by decide) 4) (fun k => a2 43 (by decide) k) ?_ ?_
    · rw [a1 37 (by decide)]; exact h.web.imp id (WebC_of (fun q k hq => a1 q (by omega) k))
    · rw [a1 40 (by decide)]; exact h.land.imp id (LandC_of (a1 40 (by decide) 5) (fun k => a2 41 (by decide) k))
  have h2 : Bk R x' z' F S l r m := by
    refine h1.atZ hR ⟨fun q k hq => b1 q (by omega) k, b1 0 (by decide) 2, b1 0 (by decide) 3⟩ (fun k _ => b1 0 (by decide) k) ?_ ?_
    · rw [b1 0 (by decide)]; exact h.fol.imp id (FolC_of (fun k => b1 9 (by decide) k) (b1 0 (by decide) 23))
    · rw [b1 0 (by decide)]; exact h.look.imp id (LookC_of (fun k => b1 8 (by decide) k) (fun k _ => b1 0 (by decide) k))
  exact IVi h2
theorem iv_mk {R : XS → XS → Prop} (hR : Stab R) : MKs (IV R) := by
  rintro x z ⟨F, S, l, r, m, h⟩
  refine ⟨h.mk1, fun e => ?_⟩
  have h0 := h.r0 hR
  rw [h0.zs] at e
  rcases h0.fol with f | f
  · exact absurd (e.symm.trans f) h.ne
  · exact fol_dia2 f
theorem spec_of {R : XS → XS → Prop} (hR : Stab R) (hE : ∀ x z, R x z → x.1 0 10 = z.1 0 3) (hT : ∀ x z, R x z → x.1 1 1 = z.1 0 2) (hO : ∀ x z, R x z → x.1 21 7 = z.1 11 5)
    (o1 : IV R (i_X8_init (clr x00 0)) (tauX (i_X10_init (pul 48 (clr (i_X8_init (clr x00 0)) 48)))))
    (o2 : ∀ p q r s t : Int32, AgT (IV R) code1 cvI (fun E => E = "java/lang/IllegalStateException") (f_X8_feed p q r s t) (f_X10_feed p q r s t))
    (o3 : ∀ p : Int32, AgT (IV R) code1 cvI (fun E => E = "java/lang/IllegalArgumentException") (f_X8_trim p) (f_X10_trim p))
    (o4 : AgN (IV R) (fun x => some ((readF (setI (scanF x) 1 1 0)).1 34 5, teachF x)) f_X10_teach)
    (o5 : ∀ p : Int32, AgT (IV R) code1 cvI (fun E => E = "java/lang/IllegalArgumentException") (f_X8_passDays p) (f_X10_passDays p))
    (o6 : ∀ p : Int32, AgT (IV R) code1 cvI (fun E => E = "java/lang/IllegalArgumentException") (f_X8_standingAfter p) (f_X10_standingAfter p))
    (o7 : ∀ p : Int32, AgT (IV R) code1 cvI (fun E => E = "java/lang/IllegalArgumentException") (f_X8_peacesAfter p) (f_X10_peacesAfter p))
    (o8 : AgN (IV R) f_X8_daysUntilPeace f_X10_daysUntilPeace) : Spec (IV R) :=
  ⟨iv_cong hR, iv_mk hR, o1, o2, o3, o4, ag_errorAt hR hE, ag_families hR, ag_statements hR, ag_orders hR hO, ag_days hR, ag_carried hR, ag_tapeBytes hR hT, ag_standing hR, ag_kindOf hR, ag_first hR, ag_second hR, ag_stands hR, ag_isNeedless hR, ag_follows hR, ag_what hR, ag_between hR, ag_parts hR, ag_partOf hR, ag_partSize hR, ag_isPeacePossible hR, ag_peaces hR, ag_peacesWith hR, ag_isPossible hR, ag_isSettled hR, ag_ridesInPeace hR, ag_ridersInPeace hR, ag_blamed hR, ag_break hR, ag_renew hR, o5, o6, o7, o8, ag_fewest hR, ag_mostTelling hR, ag_mean hR, ag_digest hR hT hO⟩
