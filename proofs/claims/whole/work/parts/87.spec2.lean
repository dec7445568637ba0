/-! What is left: the first book, feeding, trimming, teaching -/
theorem spec_of2 {R : XS → XS → Prop} (hR : Stab R) (hQ : OrdQ R) (hE : ∀ x z, R x z → x.1 0 10 = z.1 0 3) (hT : ∀ x z, R x z → x.1 1 1 = z.1 0 2) (hO : ∀ x z, R x z → x.1 21 7 = z.1 11 5)
    (o1 : IV R (i_X8_init (clr x00 0)) (tauX (i_X10_init (pul 48 (clr (i_X8_init (clr x00 0)) 48)))))
    (o2 : ∀ p q r s t : Int32, AgT (IV R) code1 cvI (fun E => E = "java/lang/IllegalStateException") (f_X8_feed p q r s t) (f_X10_feed p q r s t))
    (o3 : ∀ p : Int32, AgT (IV R) code1 cvI (fun E => E = "java/lang/IllegalArgumentException") (f_X8_trim p) (f_X10_trim p))
    (o4 : AgN (IV R) (fun x => some ((readF (setI (scanF x) 1 1 0)).1 34 5, teachF x)) f_X10_teach) : Spec (IV R) :=
  spec_of hR hE hT hO o1 o2 o3 o4 (ag_pass hR hQ) (ag_standingAfter hR hQ) (ag_peacesAfter hR hQ) (ag_until hR hQ)
