/-! The fewest statements between; the blamed family -/
/-! no peace: somebody is to blame -/
theorem x1x1 : ∀ c, c < 20 → (c ^^^ 1) ^^^ 1 = c := by decide +kernel
theorem st_contra {F S : Nat} {l r : Nat → Nat} {s : Int32} (hF : F ≤ 10) (h : ∀ k, k < S → l k < 2 * F ∧ r k < 2 * F) {c d : Nat} : ∀ k, k ≤ S → stA l r s k c d = true → stA l r s k (d ^^^ 1) (c ^^^ 1) = true
  | 0, _, e => by cases e
  | k + 1, hk, e => by
    obtain ⟨h1, h2⟩ := h k (by omega)
    have e' : (stA l r s k c d || (bit s k && ((decide (c = l k ^^^ 1) && decide (d = r k)) || (decide (c = r k ^^^ 1) && decide (d = l k))))) = true := e
    show (stA l r s k (d ^^^ 1) (c ^^^ 1) || (bit s k && ((decide (d ^^^ 1 = l k ^^^ 1) && decide (c ^^^ 1 = r k)) || (decide (d ^^^ 1 = r k ^^^ 1) && decide (c ^^^ 1 = l k))))) = true
    rw [Bool.or_eq_true] at e'
    rcases e' with e' | e'
    · rw [st_contra hF h k (by omega) e']; rfl
    · simp only [Bool.and_eq_true, Bool.or_eq_true, decide_eq_true_iff] at e'
      obtain ⟨b, ⟨rfl, rfl⟩ | ⟨rfl, rfl⟩⟩ := e'
      · rw [b, x1x1 _ (by omega), decide_eq_true rfl, decide_eq_true rfl]; simp
      · rw [b, x1x1 _ (by omega), decide_eq_true rfl, decide_eq_true rfl]; simp
theorem RR_contra {F S : Nat} {l r : Nat → Nat} {s : Int32} (hF : F ≤ 10) (h : ∀ k, k < S → l k < 2 * F ∧ r k < 2 * F) {c d : Nat} (e : RR F S l r s c d = true) : RR F S l r s (d ^^^ 1) (c ^^^ 1) = true := by
  have key : ∀ (j d : Nat), lv (stA l r s S) c j d = true → RR F S l r s (d ^^^ 1) (c ^^^ 1) = true := by
    intro j
    induction j with
    | zero => intro d e; rw [show d = c from of_decide_eq_true e]; exact RR_refl _
    | succ j ih =>
      intro d e
      rcases lv_succ.mp e with e | ⟨a, a1, a2, a3⟩
      · exact ih d e
      · exact RR_trans hF h (RR_step (st_contra hF h S (Nat.le_refl S) a3)) (ih a a2)
  obtain ⟨j, hj⟩ := clo_lv hF h _ c d e
  exact key j d hj
theorem fam_x : ∀ f, f < 10 → (2 * f) ^^^ 1 = 2 * f + 1 ∧ (2 * f + 1) ^^^ 1 = 2 * f := by decide +kernel
/-- claims taken together: closed, never both of a pair, the first f families settled -/
def Tak (A : Mat) (T : Nat → Prop) (f : Nat) : Prop := (∀ c d, T c → A c d = true → T d) ∧ (∀ c, T c → T (c ^^^ 1) → False) ∧ ∀ g, g < f → T (2 * g) ∨ T (2 * g + 1)
theorem tak_step {F S : Nat} {l r : Nat → Nat} {s : Int32} (hF : F ≤ 10) (h : ∀ k, k < S → l k < 2 * F ∧ r k < 2 * F) {T : Nat → Prop} {f c : Nat} (hf : f < F) (hT : Tak (RR F S l r s) T f) (hc : c = 2 * f ∨ c = 2 * f + 1) (hn : ¬ RR F S l r s c (c ^^^ 1) = true) (h1 : ¬ T (2 * f)) (h2 : ¬ T (2 * f + 1)) : Tak (RR F S l r s) (fun d => T d ∨ RR F S l r s c d = true) (f + 1) := by
  obtain ⟨t1, t2, t3⟩ := hT
  obtain ⟨x1, x2⟩ := fam_x f (by omega)
  have hc1 : ¬ T (c ^^^ 1) := by
    rcases hc with e | e
    · rw [e, x1]; exact h2
    · rw [e, x2]; exact h1
  have hlt : ∀ d, RR F S l r s c d = true → d < 20 := fun d e => by
    rcases Nat.lt_or_ge d (2 * F) with q | q
    · omega
    · have := clo_out hF h (s := s) (2 * F) c d (Or.inr q)
      have e' : clo (A0 l r s S) (2 * F) c d = true := e
      rw [this] at e'
      have := of_decide_eq_true e'
      omega
  have hx : ∀ d, RR F S l r s c d = true → RR F S l r s c (d ^^^ 1) = true → False := fun d e1 e2 => by
    have e3 := RR_contra hF h e2
    rw [x1x1 d (hlt d e1)] at e3
    exact hn (RR_trans hF h e1 e3)
  have hy : ∀ d, T d → RR F S l r s c (d ^^^ 1) = true → d < 20 → False := fun d e1 e2 hd => by
    have e3 := RR_contra hF h e2
    rw [x1x1 d hd] at e3
    exact hc1 (t1 _ _ e1 e3)
  have hx1 : ∀ d, d ^^^ 1 < 20 → d < 20 := fun d hd => by
    have e : (d ^^^ 1) ^^^ 1 = d := by rw [Nat.xor_assoc, Nat.xor_self, Nat.xor_zero]
    have := (small20 _ hd).2.2.2.2
    rw [e] at this; exact this
  refine ⟨fun a d ha hd => ?_, fun d h1 h2 => ?_, fun g hg => ?_⟩
  · rcases ha with ha | ha
    · exact Or.inl (t1 a d ha hd)
    · exact Or.inr (RR_trans hF h ha hd)
  · rcases h1 with h1 | h1
    · rcases h2 with h2 | h2
      · exact t2 d h1 h2
      · exact hy d h1 h2 (hx1 d (hlt _ h2))
    · rcases h2 with h2 | h2
      · have e : (d ^^^ 1) ^^^ 1 = d := by rw [Nat.xor_assoc, Nat.xor_self, Nat.xor_zero]
        exact hy (d ^^^ 1) h2 (by rw [e]; exact h1) (small20 d (hlt d h1)).2.2.2.2
      · exact hx d h1 h2
  · by_cases e : g = f
    · rcases hc with q | q
      · exact Or.inl (Or.inr (by rw [e, ← q]; exact RR_refl c))
      · exact Or.inr (Or.inr (by rw [e, ← q]; exact RR_refl c))
    · exact (t3 g (by omega)).imp Or.inl Or.inl
theorem tak_all {F S : Nat} {l r : Nat → Nat} {s : Int32} (hF : F ≤ 10) (h : ∀ k, k < S → l k < 2 * F ∧ r k < 2 * F) (hno : ∀ f, f < F → ¬ (RR F S l r s (2 * f) (2 * f + 1) = true ∧ RR F S l r s (2 * f + 1) (2 * f) = true)) : ∀ f, f ≤ F → ∃ T, Tak (RR F S l r s) T f
  | 0, _ => ⟨fun _ => False, fun _ _ h _ => h, fun _ h _ => h, fun g hg => absurd hg (Nat.not_lt_zero g)⟩
  | f + 1, hf => by
    obtain ⟨T, hT⟩ := tak_all hF h hno f (by omega)
    obtain ⟨x1, x2⟩ := fam_x f (by omega)
    by_cases h1 : T (2 * f)
    · refine ⟨T, hT.1, hT.2.1, fun g hg => ?_⟩
      by_cases e : g = f
      · rw [e]; exact Or.inl h1
      · exact hT.2.2 g (by omega)
    · by_cases h2 : T (2 * f + 1)
      · refine ⟨T, hT.1, hT.2.1, fun g hg => ?_⟩
        by_cases e : g = f
        · rw [e]; exact Or.inr h2
        · exact hT.2.2 g (by omega)
      · by_cases h3 : RR F S l r s (2 * f) (2 * f + 1) = true
        · exact ⟨_, tak_step hF h (c := 2 * f + 1) (by omega) hT (Or.inr rfl) (by rw [x2]; exact fun h4 => hno f (by omega) ⟨h3, h4⟩) h1 h2⟩
        · exact ⟨_, tak_step hF h (c := 2 * f) (by omega) hT (Or.inl rfl) (by rw [x1]; exact h3) h1 h2⟩
theorem num_of (P : Nat → Prop) : ∀ F, ∃ p, p < 2 ^ F ∧ ∀ f, f < F → (p.testBit f = true ↔ P f)
  | 0 => ⟨0, by decide, fun f h => absurd h (Nat.not_lt_zero f)⟩
  | F + 1 => by
    obtain ⟨p, h1, h2⟩ := num_of P F
    have hp : p < 2 ^ (F + 1) := Nat.lt_of_lt_of_le h1 (Nat.pow_le_pow_right (by decide) (by omega))
    by_cases hP : P F
    · refine ⟨p ||| 2 ^ F, Nat.or_lt_two_pow hp (Nat.pow_lt_pow_right (by decide) (by omega)), fun f hf => ?_⟩
      rw [Nat.testBit_or, Nat.testBit_two_pow]
      by_cases e : f = F
      · rw [e, decide_eq_true rfl, Bool.or_true]; exact ⟨fun _ => hP, fun _ => rfl⟩
      · rw [decide_eq_false (fun q => e q.symm), Bool.or_false]; exact h2 f (by omega)
    · refine ⟨p, hp, fun f hf => ?_⟩
      by_cases e : f = F
      · rw [e, Nat.testBit_lt_two_pow h1]; exact ⟨fun q => (by cases q), fun q => absurd q hP⟩
      · exact h2 f (by omega)
theorem half_two {F c : Nat} (h : c < 2 * F) : c / 2 < F ∧ (c = 2 * (c / 2) ∨ c = 2 * (c / 2) + 1) := by omega
theorem sat {F S : Nat} {l r : Nat → Nat} {s : Int32} (hF : F ≤ 10) (h : ∀ k, k < S → l k < 2 * F ∧ r k < 2 * F) (hno : ∀ f, f < F → ¬ (RR F S l r s (2 * f) (2 * f + 1) = true ∧ RR F S l r s (2 * f + 1) (2 * f) = true)) : ∃ p, p < 2 ^ F ∧ PA l r s S p = true := by
  obtain ⟨T, t1, t2, t3⟩ := tak_all hF h hno F (Nat.le_refl F)
  obtain ⟨p, p1, p2⟩ := num_of (fun f => T (2 * f)) F
  have hT : ∀ c, c < 2 * F → (holdsP p c = true ↔ T c) := fun c hc => by
    obtain ⟨q1, q2⟩ := half_two hc
    obtain ⟨x1, x2⟩ := fam_x (c / 2) (by omega)
    have hb := p2 _ q1
    unfold holdsP
    generalize hg : c / 2 = g at q1 q2 x1 x2 hb
    rcases q2 with e | e
    · rw [decide_eq_true (show c % 2 = 0 by omega), beq_true, hb, e]
    · rw [decide_eq_false (show ¬ c % 2 = 0 by omega), e]
      cases hq : p.testBit g with
      | true =>
        refine ⟨fun h => (by cases h), fun h => ?_⟩
        exact (t2 _ h (by rw [x2]; exact hb.mp hq)).elim
      | false =>
        refine ⟨fun _ => ?_, fun _ => rfl⟩
        rcases t3 g q1 with k | k
        · rw [hb.mpr k] at hq; cases hq
        · exact k
  refine ⟨p, p1, ?_⟩
  have key : ∀ k, k ≤ S → PA l r s k p = true := by
    intro k
    induction k with
    | zero => intro _; rfl
    | succ k ih =>
      intro hk
      obtain ⟨h1, h2⟩ := h k (by omega)
      show (PA l r s k p && (!bit s k || (holdsP p (l k) || holdsP p (r k)))) = true
      rw [ih (by omega), Bool.true_and]
      cases hb : bit s k with
      | false => rfl
      | true =>
        show (holdsP p (l k) || holdsP p (r k)) = true
        cases hl : holdsP p (l k) with
        | true => rfl
        | false =>
          show holdsP p (r k) = true
          rw [hT _ h2]
          have hnl : ¬ T (l k) := fun q => by rw [(hT _ h1).mpr q] at hl; cases hl
          have hl1 : T (l k ^^^ 1) := by
            obtain ⟨q1, q2⟩ := half_two h1
            obtain ⟨x1, x2⟩ := fam_x (l k / 2) (by omega)
            have h3 := t3 _ q1
            generalize l k / 2 = g at q1 q2 x1 x2 h3
            rcases q2 with e | e
            · rw [e, x1]; rw [e] at hnl; exact h3.resolve_left hnl
            · rw [e, x2]; rw [e] at hnl; exact h3.resolve_right hnl
          refine t1 _ _ hl1 (RR_step ?_)
          have st_more : ∀ j, k + 1 + j ≤ S → stA l r s (k + 1 + j) (l k ^^^ 1) (r k) = true := by
            intro j
            induction j with
            | zero =>
              intro _
              show (stA l r s k _ _ || (bit s k && ((decide (l k ^^^ 1 = l k ^^^ 1) && decide (r k = r k)) || _))) = true
              rw [hb, decide_eq_true rfl, decide_eq_true rfl]; simp
            | succ j ih => intro hj; show (stA l r s (k + 1 + j) _ _ || _) = true; rw [ih (by omega)]; rfl
          have := st_more (S - (k + 1)) (by omega)
          rw [show k + 1 + (S - (k + 1)) = S by omega] at this
          exact this
  exact key S (Nat.le_refl S)
