/-! The fewest statements between; the blamed family -/
theorem ag_between {R : XS → XS → Prop} (hR : Stab R) (p q : Int32) : AgT (IV R) code2 cvI (fun E => E = "java/lang/IndexOutOfBoundsException" ∨ E = "java/lang/IllegalStateException") (f_X8_fewestStatementsBetween p q) (f_X10_fewestStatementsBetween p q) := by
  rintro x z ⟨F, S, l, r, m, h⟩
  have h0 := h.r0 hR
  have hF := h.bx.1
  unfold f_X8_fewestStatementsBetween f_X10_fewestStatementsBetween
  rw [show setI z 0 0 0 = r0 z from rfl]
  rcases needCl h.bx h0.bz p with ⟨c, c1, rfl, c3, c4⟩ | ⟨c3, c4⟩
  · rw [c3, if_neg (b2i_n c4)]
    simp only [ob_some1, rbo_inr1]
    rcases needCl h.bx h0.bz q with ⟨d, d1, rfl, d3, d4⟩ | ⟨d3, d4⟩
    · rw [d3, if_neg (b2i_n d4)]
      simp only [ob_some1, rbo_inr1]
      obtain ⟨f1, f2⟩ := h0.fol1 hR
      obtain ⟨w1, w2⟩ := f1.webx hR
      have y00 : (mfol (r0 z)).1 0 0 = 0 := by rw [fol_0 (by decide) (by decide)]; exact r00 z
      rw [cdec_t h0.mok, cdec_t f1.mok, inB_nI (show c < 20 by omega) (by decide), inB_nI (show d < 20 by omega) (by decide), nI_clamp (show c < 2 ^ 31 by omega), nI_clamp (show d < 2 ^ 31 by omega), mhasB_bit (show c < 32 by omega), f2.1 d (by omega) c (by omega)]
      simp only [og_true]
      unfold distF
      generalize webLook (x.1 46 1) x = y at w1 w2
      generalize mfol (r0 z) = w at f1 f2 w1 y00
      have hE : ∀ a b, stA l r (nI m) S a b = true → a < 2 * F ∧ b < 2 * F := fun a b e => st_lt hF h.bx.2.2.2.2.1 S (Nat.le_refl S) e
      have hlv := RR_lv (s := nI m) hF h.bx.2.2.2.2.1 (c := c) (d := d) (by omega) (by omega)
      rcases dist_eq (n := 2 * F) (by omega) w2.1 w2.2.1 hE (d := d) (c := c) (by omega) 21 0 (withI 0 (nI d)) (fun a ha => by
        rw [bit_with (by omega) ha, bit_zero]; exact Bool.false_or _) with ⟨i, -, i2, i3, i4, i5⟩ | ⟨i1, i2⟩
      · rw [i5, hlv.mpr (lv_le (by omega) i3), if_pos (show (0 : Int32) ≤ nI i from (nI_leq (a := 0) (by decide) (by omega)).mpr (Nat.zero_le i)), if_neg (show ¬ b2i true = 0 by decide)]
        obtain ⟨b1, b2, b3⟩ := bt0_aw (E := stA l r (nI m) S) (d := d) (by omega) w
        obtain ⟨y', e1, e2, e3, e4⟩ := bt_eq w1.bz w1.zs (c := c) (d := d) (k0 := i) (by omega) (by omega) i3 (fun e he => i4 e (Nat.zero_le e) he) 21 0 (bt0 d w) (by omega) (Nat.zero_le _) b1 b2 b3
        rw [show btL c 21 0 (bt0 d w) = some y' from e1]
        refine Or.inr ⟨_, y, _, rfl, rfl, by rw [e3 _ _ (by decide)]; exact y00, by rw [e2], IVi (w1.atZ hR ⟨fun q k hq => e3 q k (by omega), e3 _ _ (by decide), e3 _ _ (by decide)⟩ (fun k _ => e3 _ _ (by decide)) ?_ ?_)⟩
        · rw [e3 _ _ (by decide)]; exact w1.fol.imp id (FolC_of (fun k => e3 _ _ (by decide)) (e3 _ _ (by decide)))
        · rw [e3 _ _ (by decide)]; exact w1.look.imp id (LookC_of (fun k => e3 _ _ (by decide)) (fun k _ => e3 _ _ (by decide)))
      · have hr : RR F S l r (nI m) d c = false := by
          cases hb : RR F S l r (nI m) d c with
          | false => rfl
          | true => rw [i1 20 (by omega) (by omega)] at hlv; exact absurd (hlv.mp hb) (by decide)
        rw [i2, hr, if_neg (by decide), if_pos (show b2i false = 0 from rfl)]
        exact Or.inl ⟨_, y, _, rfl, rfl, (z00 _ _).trans code2_2.symm, Or.inr rfl, IVi (w1.z0 hR 2)⟩
    · rw [d3, if_pos (b2i_f d4)]
      exact Or.inl ⟨_, x, _, rfl, rfl, (z00 _ _).trans code2_1.symm, Or.inl rfl, IVi (h0.z0 hR 1)⟩
  · rw [c3, if_pos (b2i_f c4)]
    exact Or.inl ⟨_, x, _, rfl, rfl, (z00 _ _).trans code2_1.symm, Or.inl rfl, IVi (h0.z0 hR 1)⟩
/-! no peace: somebody is to blame -/
theorem x1x1 : ∀ c, c < 20 → (c ^^^ 1) ^^^ 1 = c := by decide +kernel
theorem st_contra {F S : Nat} {l r : Nat → Nat} {s : Int32} (hF : F ≤ 10) (h : ∀ k, k < S → l k < 2 * F ∧ r k < 2 * F) {c d : Nat} : ∀ k, k ≤ S → stA l r s k c d = true → stA l r s k (d ^^^ 1) (c ^^^ 1) = true
  | 0, _, e => by cases e
  | k + 1, hk, e => by
    obtain ⟨h1, h2⟩ := h k (by omega)
    have e' : (stA l r s k c d || (bit s k && ((decide (c = l k ^^^ 1) && decide (d = r k)) || (decide (c = r k ^^^ 1) && decide (d = l k))))) = true := e
    show (stA l r s k (d ^^^ 1) (c ^^^ 1) || (bit s k && ((decide (d ^^^ 1 = l k ^^^ 1) && decide (c ^^^ 1 = r k)) || (decide (d ^^^ 1 = r k ^^^ 1) && decide (c ^^^ 1 = l k))))) = true
    rw [Bool.or_eq_true] at e'
    rcases e' with e' | e'
    · rw [st_contra hF h k (by omega) e']; rfl
    · simp only [Bool.and_eq_true, Bool.or_eq_true, decide_eq_true_iff] at e'
      obtain ⟨b, ⟨rfl, rfl⟩ | ⟨rfl, rfl⟩⟩ := e'
      · rw [b, x1x1 _ (by omega), decide_eq_true rfl, decide_eq_true rfl]; simp
      · rw [b, x1x1 _ (by omega), decide_eq_true rfl, decide_eq_true rfl]; simp
theorem RR_contra {F S : Nat} {l r : Nat → Nat} {s : Int32} (hF : F ≤ 10) (h : ∀ k, k < S → l k < 2 * F ∧ r k < 2 * F) {c d : Nat} (e : RR F S l r s c d = true) : RR F S l r s (d ^^^ 1) (c ^^^ 1) = true := by
  have key : ∀ (j d : Nat), lv (stA l r s S) c j d = true → RR F S l r s (d ^^^ 1) (c ^^^ 1) = true := by
    intro j
    induction j with
    | zero => intro d e; rw [show d = c from of_decide_eq_true e]; exact RR_refl _
    | succ j ih =>
      intro d e
      rcases lv_succ.mp e with e | ⟨a, a1, a2, a3⟩
      · exact ih d e
      · exact RR_trans hF h (RR_step (st_contra hF h S (Nat.le_refl S) a3)) (ih a a2)
  obtain ⟨j, hj⟩ := clo_lv hF h _ c d e
  exact key j d hj
theorem fam_x : ∀ f, f < 10 → (2 * f) ^^^ 1 = 2 * f + 1 ∧ (2 * f + 1) ^^^ 1 = 2 * f := by decide +kernel
/-- claims taken together: closed, never both of a pair, the first f families settled -/
def Tak (A : Mat) (T : Nat → Prop) (f : Nat) : Prop := (∀ c d, T c → A c d = true → T d) ∧ (∀ c, T c → T (c ^^^ 1) → False) ∧ ∀ g, g < f → T (2 * g) ∨ T (2 * g + 1)
theorem tak_step {F S : Nat} {l r : Nat → Nat} {s : Int32} (hF : F ≤ 10) (h : ∀ k, k < S → l k < 2 * F ∧ r k < 2 * F) {T : Nat → Prop} {f c : Nat} (hf : f < F) (hT : Tak (RR F S l r s) T f) (hc : c = 2 * f ∨ c = 2 * f + 1) (hn : ¬ RR F S l r s c (c ^^^ 1) = true) (h1 : ¬ T (2 * f)) (h2 : ¬ T (2 * f + 1)) : Tak (RR F S l r s) (fun d => T d ∨ RR F S l r s c d = true) (f + 1) := by
  obtain ⟨t1, t2, t3⟩ := hT
  obtain ⟨x1, x2⟩ := fam_x f (by omega)
  have hc1 : ¬ T (c ^^^ 1) := by
    rcases hc with e | e
    · rw [e, x1]; exact h2
    · rw [e, x2]; exact h1
  have hlt : ∀ d, RR F S l r s c d = true → d < 20 := fun d e => by
    rcases Nat.lt_or_ge d (2 * F) with q | q
    · omega
    · have := clo_out hF h (s := s) (2 * F) c d (Or.inr q)
      have e' : clo (A0 l r s S) (2 * F) c d = true := e
      rw [this] at e'
      have := of_decide_eq_true e'
      omega
  have hx : ∀ d, RR F S l r s c d = true → RR F S l r s c (d ^^^ 1) = true → False := fun d e1 e2 => by
    have e3 := RR_contra hF h e2
    rw [x1x1 d (hlt d e1)] at e3
    exact hn (RR_trans hF h e1 e3)
  have hy : ∀ d, T d → RR F S l r s c (d ^^^ 1) = true → d < 20 → False := fun d e1 e2 hd => by
    have e3 := RR_contra hF h e2
    rw [x1x1 d hd] at e3
    exact hc1 (t1 _ _ e1 e3)
  have hx1 : ∀ d, d ^^^ 1 < 20 → d < 20 := fun d hd => by
    have e : (d ^^^ 1) ^^^ 1 = d := by rw [Nat.xor_assoc, Nat.xor_self, Nat.xor_zero]
    have := (small20 _ hd).2.2.2.2
    rw [e] at this; exact this
  refine ⟨fun a d ha hd => ?_, fun d h1 h2 => ?_, fun g hg => ?_⟩
  · rcases ha with ha | ha
    · exact Or.inl (t1 a d ha hd)
    · exact Or.inr (RR_trans hF h ha hd)
  · rcases h1 with h1 | h1
    · rcases h2 with h2 | h2
      · exact t2 d h1 h2
      · exact hy d h1 h2 (hx1 d (hlt _ h2))
    · rcases h2 with h2 | h2
      · have e : (d ^^^ 1) ^^^ 1 = d := by rw [Nat.xor_assoc, Nat.xor_self, Nat.xor_zero]
        exact hy (d ^^^ 1) h2 (by rw [e]; exact h1) (small20 d (hlt d h1)).2.2.2.2
      · exact hx d h1 h2
  · by_cases e : g = f
    · rcases hc with q | q
      · exact Or.inl (Or.inr (by rw [e, ← q]; exact RR_refl c))
      · exact Or.inr (Or.inr (by rw [e, ← q]; exact RR_refl c))
    · exact (t3 g (by omega)).imp Or.inl Or.inl
theorem tak_all {F S : Nat} {l r : Nat → Nat} {s : Int32} (hF : F ≤ 10) (h : ∀ k, k < S → l k < 2 * F ∧ r k < 2 * F) (hno : ∀ f, f < F → ¬ (RR F S l r s (2 * f) (2 * f + 1) = true ∧ RR F S l r s (2 * f + 1) (2 * f) = true)) : ∀ f, f ≤ F → ∃ T, Tak (RR F S l r s) T f
  | 0, _ => ⟨fun _ => False, fun _ _ h _ => h, fun _ h _ => h, fun g hg => absurd hg (Nat.not_lt_zero g)⟩
  | f + 1, hf => by
    obtain ⟨T, hT⟩ := tak_all hF h hno f (by omega)
    obtain ⟨x1, x2⟩ := fam_x f (by omega)
    by_cases h1 : T (2 * f)
    · refine ⟨T, hT.1, hT.2.1, fun g hg => ?_⟩
      by_cases e : g = f
      · rw [e]; exact Or.inl h1
      · exact hT.2.2 g (by omega)
    · by_cases h2 : T (2 * f + 1)
      · refine ⟨T, hT.1, hT.2.1, fun g hg => ?_⟩
        by_cases e : g = f
        · rw [e]; exact Or.inr h2
        · exact hT.2.2 g (by omega)
      · by_cases h3 : RR F S l r s (2 * f) (2 * f + 1) = true
        · exact ⟨_, tak_step hF h (c := 2 * f + 1) (by omega) hT (Or.inr rfl) (by rw [x2]; exact fun h4 => hno f (by omega) ⟨h3, h4⟩) h1 h2⟩
        · exact ⟨_, tak_step hF h (c := 2 * f) (by omega) hT (Or.inl rfl) (by rw [x1]; exact h3) h1 h2⟩
theorem num_of (P : Nat → Prop) : ∀ F, ∃ p, p < 2 ^ F ∧ ∀ f, f < F → (p.testBit f = true ↔ P f)
  | 0 => ⟨0, by decide, fun f h => absurd h (Nat.not_lt_zero f)⟩
  | F + 1 => by
    obtain ⟨p, h1, h2⟩ := num_of P F
    have hp : p < 2 ^ (F + 1) := Nat.lt_of_lt_of_le h1 (Nat.pow_le_pow_right (by decide) (by omega))
    by_cases hP : P F
    · refine ⟨p ||| 2 ^ F, Nat.or_lt_two_pow hp (Nat.pow_lt_pow_right (by decide) (by omega)), fun f hf => ?_⟩
      rw [Nat.testBit_or, Nat.testBit_two_pow]
      by_cases e : f = F
      · rw [e, decide_eq_true rfl, Bool.or_true]; exact ⟨fun _ => hP, fun _ => rfl⟩
      · rw [decide_eq_false (fun q => e q.symm), Bool.or_false]; exact h2 f (by omega)
    · refine ⟨p, hp, fun f hf => ?_⟩
      by_cases e : f = F
      · rw [e, Nat.testBit_lt_two_pow h1]; exact ⟨fun q => (by cases q), fun q => absurd q hP⟩
      · exact h2 f (by omega)
theorem half_two {F c : Nat} (h : c < 2 * F) : c / 2 < F ∧ (c = 2 * (c / 2) ∨ c = 2 * (c / 2) + 1) := by omega
theorem sat {F S : Nat} {l r : Nat → Nat} {s : Int32} (hF : F ≤ 10) (h : ∀ k, k < S → l k < 2 * F ∧ r k < 2 * F) (hno : ∀ f, f < F → ¬ (RR F S l r s (2 * f) (2 * f + 1) = true ∧ RR F S l r s (2 * f + 1) (2 * f) = true)) : ∃ p, p < 2 ^ F ∧ PA l r s S p = true := by
  obtain ⟨T, t1, t2, t3⟩ := tak_all hF h hno F (Nat.le_refl F)
  obtain ⟨p, p1, p2⟩ := num_of (fun f => T (2 * f)) F
  have hT : ∀ c, c < 2 * F → (holdsP p c = true ↔ T c) := fun c hc => by
    obtain ⟨q1, q2⟩ := half_two hc
    obtain ⟨x1, x2⟩ := fam_x (c / 2) (by omega)
    have hb := p2 _ q1
    unfold holdsP
    generalize hg : c / 2 = g at q1 q2 x1 x2 hb
    rcases q2 with e | e
    · rw [decide_eq_true (show c % 2 = 0 by omega), beq_true, hb, e]
    · rw [decide_eq_false (show ¬ c % 2 = 0 by omega), e]
      cases hq : p.testBit g with
      | true =>
        refine ⟨fun h => (by cases h), fun h => ?_⟩
        exact (t2 _ h (by rw [x2]; exact hb.mp hq)).elim
      | false =>
        refine ⟨fun _ => ?_, fun _ => rfl⟩
        rcases t3 g q1 with k | k
        · rw [hb.mpr k] at hq; cases hq
        · exact k
  refine ⟨p, p1, ?_⟩
  have key : ∀ k, k ≤ S → PA l r s k p = true := by
    intro k
    induction k with
    | zero => intro _; rfl
    | succ k ih =>
      intro hk
      obtain ⟨h1, h2⟩ := h k (by omega)
      show (PA l r s k p && (!bit s k || (holdsP p (l k) || holdsP p (r k)))) = true
      rw [ih (by omega), Bool.true_and]
      cases hb : bit s k with
      | false => rfl
      | true =>
        show (holdsP p (l k) || holdsP p (r k)) = true
        cases hl : holdsP p (l k) with
        | true => rfl
        | false =>
          show holdsP p (r k) = true
          rw [hT _ h2]
          have hnl : ¬ T (l k) := fun q => by rw [(hT _ h1).mpr q] at hl; cases hl
          have hl1 : T (l k ^^^ 1) := by
            obtain ⟨q1, q2⟩ := half_two h1
            obtain ⟨x1, x2⟩ := fam_x (l k / 2) (by omega)
            have h3 := t3 _ q1
            generalize l k / 2 = g at q1 q2 x1 x2 h3
            rcases q2 with e | e
            · rw [e, x1]; rw [e] at hnl; exact h3.resolve_left hnl
            · rw [e, x2]; rw [e] at hnl; exact h3.resolve_right hnl
          refine t1 _ _ hl1 (RR_step ?_)
          have st_more : ∀ j, k + 1 + j ≤ S → stA l r s (k + 1 + j) (l k ^^^ 1) (r k) = true := by
            intro j
            induction j with
            | zero =>
              intro _
              show (stA l r s k _ _ || (bit s k && ((decide (l k ^^^ 1 = l k ^^^ 1) && decide (r k = r k)) || _))) = true
              rw [hb, decide_eq_true rfl, decide_eq_true rfl]; simp
            | succ j ih => intro hj; show (stA l r s (k + 1 + j) _ _ || _) = true; rw [ih (by omega)]; rfl
          have := st_more (S - (k + 1)) (by omega)
          rw [show k + 1 + (S - (k + 1)) = S by omega] at this
          exact this
  exact key S (Nat.le_refl S)
theorem bl_eq {z : XS} {A : Mat} (h : Rows 9 20 z A) {f0 : Nat} (hf : f0 < 10) (h1 : (A (2 * f0) (2 * f0 + 1) && A (2 * f0 + 1) (2 * f0)) = true) (h2 : ∀ f, f < f0 → (A (2 * f) (2 * f + 1) && A (2 * f + 1) (2 * f)) = false) : ∀ (n f : Nat), f ≤ f0 → f0 < f + n → blL z n f = some f0
  | 0, f, _, _ => by omega
  | n + 1, f, q1, q2 => by
    rw [blL, two_nI, show nI (2 * f) + 1 = nI (2 * f + 1) from nI_addN _ 1, are_eq h (by omega) (by omega)]
    by_cases e : f = f0
    · rw [e, if_pos h1]
    · rw [if_neg (by rw [h2 f (by omega)]; decide)]
      exact bl_eq h hf h1 h2 n (f + 1) (by omega) (by omega)
theorem bl_loop {R : XS → XS → Prop} (hR : Stab R) {y : XS} {F S : Nat} {l r : Nat → Nat} {m : Nat} {f0 : Nat} (hf : f0 < F) (h1 : (RR F S l r (nI m) (2 * f0) (2 * f0 + 1) && RR F S l r (nI m) (2 * f0 + 1) (2 * f0)) = true) (h2 : ∀ f, f < f0 → (RR F S l r (nI m) (2 * f) (2 * f + 1) && RR F S l r (nI m) (2 * f + 1) (2 * f)) = false) : ∀ (n f : Nat) (x : XS), Bk R x y F S l r m → f ≤ f0 → f0 < f + n →
    ∃ x', f_X8_blamedFamily_L29 n (nI f) x = some (.inr (some (.int (nI f0)), x')) ∧ Bk R x' y F S l r m
  | 0, f, _, _, _, _ => by omega
  | n + 1, f, x, hB, q1, q2 => by
    have hF := hB.bx.1
    obtain ⟨w1, w2⟩ := hB.webx hR
    rw [f_X8_blamedFamily_L29, hB.bx.2.2.1, if_neg (fun h => by have := (nI_leq (by omega) (by omega)).mp h; omega), two_nI, show nI (2 * f) + 1 = nI (2 * f + 1) from nI_addN _ 1, hasB_bit (show 2 * f + 1 < 32 by omega), together_bit (n := 2 * F) (by omega) w2.2.2.1 w2.1 (show 2 * f < 2 * F by omega) _ (by omega), decide_eq_true (show 2 * f + 1 < 2 * F by omega), Bool.true_and, Bool.and_comm]
    by_cases e : f = f0
    · rw [e, h1, if_neg (show ¬ b2i true = 0 by decide)]
      exact ⟨_, rfl, w1⟩
    · rw [h2 f (by omega), if_pos (show b2i false = 0 from rfl), show nI f + 1 = nI (f + 1) from nI_addN f 1]
      exact bl_loop hR hf h1 h2 n (f + 1) _ w1 (by omega) (by omega)
theorem ag_blamed {R : XS → XS → Prop} (hR : Stab R) : AgT (IV R) code1 cvI (fun E => E = "java/lang/IllegalStateException") (f_X8_blamedFamily) (f_X10_blamedFamily) := by
  rintro x z ⟨F, S, l, r, m, h⟩
  have h0 := h.r0 hR
  have hF := h.bx.1
  unfold f_X8_blamedFamily f_X10_blamedFamily
  rw [show setI z 0 0 0 = r0 z from rfl, cdec_t h0.mok, h.cnt, og_true]
  obtain ⟨l1, l2⟩ := h0.lookz hR
  have g1 := l1.landx hR
  generalize hy : mlook ((r0 z).1 0 15) (r0 z) = y at l1 l2 g1
  have y00 : y.1 0 0 = 0 := by rw [← hy, mlook_00]; exact r00 z
  generalize landLook (x.1 46 1) x = x2 at g1
  rw [l2.1, cdec_t g1.mok, og_true]
  by_cases hc : nI (fb_ct (PA l r (nI m) S) (2 ^ F)) ≤ 0
  · rw [if_pos hc, if_pos hc]
    have hcle := ct_1024 (P := PA l r (nI m) S) hF
    have hz := fb_ct_zero.mp ((nI_le0 (by omega)).mp hc)
    have hex : ∃ f, f < F ∧ (RR F S l r (nI m) (2 * f) (2 * f + 1) && RR F S l r (nI m) (2 * f + 1) (2 * f)) = true := by
      apply Classical.byContradiction
      intro hn
      obtain ⟨p, p1, p2⟩ := sat (s := nI m) hF h.bx.2.2.2.2.1 (fun f hf ⟨a, b⟩ => hn ⟨f, hf, by rw [a, b]; rfl⟩)
      rw [hz p p1] at p2; cases p2
    obtain ⟨f1, hf1, hf2⟩ := hex
    obtain ⟨f0, k1, k2, k3⟩ := least (p := fun f => RR F S l r (nI m) (2 * f) (2 * f + 1) && RR F S l r (nI m) (2 * f + 1) (2 * f)) hf2
    obtain ⟨a1, a2⟩ := g1.fol1 hR
    obtain ⟨x', e1, e2⟩ := bl_loop hR (show f0 < F by omega) k2 k3 30 0 x2 a1 (Nat.zero_le _) (by omega)
    rw [bl_eq a2.1 (by omega) k2 k3 10 0 (Nat.zero_le _) (by omega)]
    exact Or.inr ⟨_, x', _, e1, rfl, by rw [fol_0 (by decide) (by decide)]; exact y00, rfl, IVi e2⟩
  · rw [if_neg hc, if_neg hc]
    exact Or.inl ⟨_, _, _, rfl, rfl, z00 _ _, rfl, IVi (g1.z0 hR 1)⟩
