/-! The told peace and the fewest to break, out of the class's words -/
def agr (t : Nat) : Nat → Nat → Bool
  | 0, _ => true
  | f + 1, p => agr t f p && (p.testBit f == t.testBit f)
theorem agr_iff {t p : Nat} : ∀ {f : Nat}, agr t f p = true ↔ ∀ j, j < f → p.testBit j = t.testBit j
  | 0 => ⟨fun _ j h => absurd h (Nat.not_lt_zero j), fun _ => rfl⟩
  | f + 1 => by
    show (agr t f p && (p.testBit f == t.testBit f)) = true ↔ _
    rw [Bool.and_eq_true, agr_iff, beq_iff_eq]
    refine ⟨fun h j hj => ?_, fun h => ⟨fun j hj => h j (by omega), h f (by omega)⟩⟩
    by_cases e : j = f
    · rw [e]; exact h.2
    · exact h.1 j (by omega)
theorem agr_cong {t u p : Nat} {f : Nat} (h : ∀ j, j < f → t.testBit j = u.testBit j) : agr t f p = agr u f p := by
  rw [Bool.eq_iff_iff, agr_iff, agr_iff]
  exact ⟨fun q j hj => (q j hj).trans (h j hj), fun q j hj => (q j hj).trans (h j hj).symm⟩
theorem holds_ride (p f : Nat) : holdsP p (2 * f) = p.testBit f := by
  unfold holdsP
  rw [show 2 * f / 2 = f by omega, show 2 * f % 2 = 0 by omega]
  cases p.testBit f <;> rfl
/-- the greedy number: the first f places are settled -/
def Gre (W : Nat → Bool) (f t : Nat) : Prop := t < 2 ^ f ∧ ((∀ p, W p = false) → t = 0) ∧ ((∃ p, W p = true) → ∃ p, W p = true ∧ agr t f p = true) ∧ ∀ p, W p = true → agr t f p = true ∨ ∃ i, i < f ∧ t.testBit i = true ∧ p.testBit i = false ∧ ∀ j, j < i → t.testBit j = p.testBit j
theorem gre_yes {W : Nat → Bool} {f t : Nat} (h : Gre W f t) (hs : ∃ p, W p = true ∧ agr t f p = true ∧ p.testBit f = true) : Gre W (f + 1) (t ||| 2 ^ f) := by
  obtain ⟨h1, h2, h3, h4⟩ := h
  have ht : ∀ j, j < f → (t ||| 2 ^ f).testBit j = t.testBit j := fun j hj => by
    rw [Nat.testBit_or, Nat.testBit_two_pow, decide_eq_false (by omega), Bool.or_false]
  have hf : (t ||| 2 ^ f).testBit f = true := by rw [Nat.testBit_or, Nat.testBit_two_pow, decide_eq_true rfl, Bool.or_true]
  have ha : ∀ p, agr (t ||| 2 ^ f) (f + 1) p = (agr t f p && p.testBit f) := fun p => by
    show (agr _ f p && (p.testBit f == _)) = _
    rw [agr_cong (u := t) ht, hf]
    cases p.testBit f <;> rfl
  obtain ⟨p0, a0, b0, c0⟩ := hs
  refine ⟨Nat.or_lt_two_pow (Nat.lt_of_lt_of_le h1 (Nat.pow_le_pow_right (by decide) (by omega))) (Nat.pow_lt_pow_right (by decide) (by omega)), fun h => ?_, fun _ => ⟨p0, a0, by rw [ha, b0, c0]; rfl⟩, fun p hp => ?_⟩
  · rw [h p0] at a0; cases a0
  · rcases h4 p hp with h | ⟨i, i1, i2, i3, i4⟩
    · cases hb : p.testBit f with
      | true => exact Or.inl (by rw [ha, h, hb]; rfl)
      | false => exact Or.inr ⟨f, by omega, hf, hb, fun j hj => by rw [ht j hj]; exact (agr_iff.mp h j hj).symm⟩
    · exact Or.inr ⟨i, by omega, by rw [ht i i1]; exact i2, i3, fun j hj => by rw [ht j (by omega)]; exact i4 j hj⟩
theorem gre_no {W : Nat → Bool} {f t : Nat} (h : Gre W f t) (hs : ¬ ∃ p, W p = true ∧ agr t f p = true ∧ p.testBit f = true) : Gre W (f + 1) t ∧ ∀ p, W p = true → agr t (f + 1) p = agr t f p := by
  obtain ⟨h1, h2, h3, h4⟩ := h
  have hf : t.testBit f = false := Nat.testBit_lt_two_pow h1
  have ha : ∀ p, W p = true → agr t (f + 1) p = agr t f p := fun p hp => by
    show (agr t f p && (p.testBit f == _)) = _
    rw [hf]
    cases hb : p.testBit f with
    | false => cases agr t f p <;> rfl
    | true =>
      cases hg : agr t f p with
      | false => rfl
      | true => exact absurd ⟨p, hp, hg, hb⟩ hs
  refine ⟨⟨Nat.lt_of_lt_of_le h1 (Nat.pow_le_pow_right (by decide) (by omega)), h2, fun he => ?_, fun p hp => ?_⟩, ha⟩
  · obtain ⟨p, q1, q2⟩ := h3 he
    exact ⟨p, q1, by rw [ha p q1]; exact q2⟩
  · rcases h4 p hp with h | ⟨i, i1, i2, i3, i4⟩
    · exact Or.inl (by rw [ha p hp]; exact h)
    · exact Or.inr ⟨i, by omega, i2, i3, i4⟩
theorem lt_bits {a b F : Nat} (ha : a < 2 ^ F) (hb : b < 2 ^ F) (h : ∀ j, j < F → a.testBit j = b.testBit j) : a = b := by
  apply Nat.eq_of_testBit_eq
  intro j
  by_cases hj : j < F
  · exact h j hj
  · rw [Nat.testBit_lt_two_pow (Nat.lt_of_lt_of_le ha (Nat.pow_le_pow_right (by decide) (by omega))), Nat.testBit_lt_two_pow (Nat.lt_of_lt_of_le hb (Nat.pow_le_pow_right (by decide) (by omega)))]
theorem gre_best {P : Nat → Bool} {F t : Nat} (h : Gre (Pw F P) F t) : Best P (2 ^ F) t := by
  obtain ⟨h1, h2, h3, h4⟩ := h
  have hW : ∀ p, Pw F P p = true ↔ p < 2 ^ F ∧ P p = true := fun p => by unfold Pw; rw [Bool.and_eq_true, decide_eq_true_iff]
  by_cases he : ∃ p, Pw F P p = true
  · obtain ⟨p, q1, q2⟩ := h3 he
    have e : p = t := lt_bits ((hW p).mp q1).1 h1 (agr_iff.mp q2)
    rw [e] at q1
    refine Or.inr ⟨h1, ((hW t).mp q1).2, fun p hp hpp => ?_⟩
    rcases h4 p ((hW p).mpr ⟨hp, hpp⟩) with h | ⟨i, i1, i2, i3, i4⟩
    · exact Or.inl (lt_bits hp h1 (agr_iff.mp h))
    · exact Or.inr ⟨i, i2, i3, i4⟩
  · have hz : ∀ p, Pw F P p = false := fun p => by
      cases hb : Pw F P p with
      | false => rfl
      | true => exact absurd ⟨p, hb⟩ he
    exact Or.inl ⟨fun p hp => by
      cases hb : P p with
      | false => rfl
      | true => exact absurd ⟨p, (hW p).mpr ⟨hp, hb⟩⟩ he, h2 hz⟩
def NSet (F : Nat) (y : XS) (Q : Nat → Bool) : Prop := ∀ w, w < usedN F → ∀ b, b < 64 → bitL (y.2 42 w) b = Q (64 * w + b)
theorem two_nI' (f : Nat) : (2 : Int32) * nI f = nI (2 * f) := pk_mul 2 f
theorem used16_eq {y : XS} {F : Nat} (hF : F < 11) (h : y.1 40 4 = nI (usedN F)) : used16 y = usedN F := by
  obtain ⟨u1, -⟩ := used_c F hF
  unfold used16
  rw [h, nI_clamp (by omega)]; omega
theorem narrow_iff {F : Nat} (hF : F < 11) {y : XS} (h4 : y.1 40 4 = nI (usedN F)) {Q : Nat → Bool} (hQ : NSet F y Q) {f : Nat} (hf : f < 10) : narrowB y (nI f) = true ↔ ∃ p, p < 64 * usedN F ∧ Q p = true ∧ p.testBit f = true := by
  obtain ⟨u1, -⟩ := used_c F hF
  unfold narrowB
  rw [used16_eq hF h4, decide_eq_true_iff, zeroL]
  have hb := itP_rel (f := someF y (nI f)) (n := usedN F) (y := (0 : Int64)) (P := fun n v => ∀ b, b < 64 → (bitL v b = true ↔ ∃ w, w < n ∧ Q (64 * w + b) = true ∧ (64 * w + b).testBit f = true))
    (fun b _ => by rw [bitL_zero]; exact ⟨fun h => (by cases h), fun ⟨w, h, _⟩ => absurd h (Nat.not_lt_zero w)⟩)
    (fun j hj v hv b hb => by
      unfold someF
      rw [bitL_or, Bool.or_eq_true, hv b hb, bitL_and, Bool.and_eq_true, hQ j hj b hb, two_nI', holds_bit _ (by omega) j (by omega) b hb, holds_ride]
      refine ⟨fun h => ?_, fun ⟨w, h1, h2⟩ => ?_⟩
      · rcases h with ⟨w, h1, h2⟩ | h
        · exact ⟨w, by omega, h2⟩
        · exact ⟨j, by omega, h⟩
      · by_cases e : w = j
        · rw [e] at h2; exact Or.inr h2
        · exact Or.inl ⟨w, by omega, h2⟩)
  generalize itP (someF y (nI f)) (usedN F) 0 = v at hb
  refine ⟨fun h => ?_, fun ⟨p, h1, h2, h3⟩ h => ?_⟩
  · apply Classical.byContradiction
    intro hn
    apply h
    intro b hb'
    cases hv : bitL v b with
    | false => rfl
    | true =>
      obtain ⟨w, w1, w2, w3⟩ := (hb b hb').mp hv
      exact absurd ⟨64 * w + b, by omega, w2, w3⟩ hn
  · have h5 := (hb (p % 64) (Nat.mod_lt _ (by decide))).mpr ⟨p / 64, by omega, by rw [show 64 * (p / 64) + p % 64 = p by omega]; exact h2, by rw [show 64 * (p / 64) + p % 64 = p by omega]; exact h3⟩
    rw [h _ (Nat.mod_lt _ (by decide))] at h5
    cases h5
theorem with_or : ∀ f, f < 10 → ∀ t, t < 2 ^ f → withI (nI t) (nI f) = nI (t ||| 2 ^ f) := by decide +kernel
theorem nar_set {F : Nat} (hF : F < 11) {y : XS} (h4 : y.1 40 4 = nI (usedN F)) {Q : Nat → Bool} (hQ : NSet F y Q) {f : Nat} (hf : f < 10) : NSet F (itP (narF (nI f)) (used16 y) y) (fun p => Q p && p.testBit f) := by
  obtain ⟨u1, -⟩ := used_c F hF
  rw [used16_eq hF h4]
  have h7 := itP_rel (f := narF (nI f)) (n := usedN F) (y := y) (P := fun j (u : XS) => (∀ w, w < j → ∀ b, b < 64 → bitL (u.2 42 w) b = (Q (64 * w + b) && (64 * w + b).testBit f)) ∧ ∀ w, j ≤ w → u.2 42 w = y.2 42 w)
    ⟨fun w h => absurd h (Nat.not_lt_zero w), fun _ _ => rfl⟩
    (fun j hj u hu => by
      unfold narF
      refine ⟨fun w hw b hb => ?_, fun w hw => ?_⟩
      · by_cases e : w = j
        · subst e
          rw [rdL_eq, bitL_and, hu.2 w (Nat.le_refl w), hQ w hj b hb, two_nI', holds_bit _ (by omega) w (by omega) b hb, holds_ride]
        · rw [rdL_nk e]; exact hu.1 w (by omega) b hb
      · rw [rdL_nk (by omega)]; exact hu.2 w (by omega))
  exact h7.1
theorem nar_fr {f : Int32} {n : Nat} {y : XS} : (itP (narF f) n y).1 = y.1 ∧ ∀ q k, q ≠ 42 → (itP (narF f) n y).2 q k = y.2 q k :=
  itP_rel (P := fun _ (u : XS) => u.1 = y.1 ∧ ∀ q k, q ≠ 42 → u.2 q k = y.2 q k) ⟨rfl, fun _ _ _ => rfl⟩ (fun j _ u hu => ⟨hu.1, fun q k h => (rdL_ne h).trans (hu.2 q k h)⟩)
theorem riders_ok {x : XS} {F S : Nat} {l r : Nat → Nat} {s : Int32} (hB : BkX x F S l r) (hP : PeaB x F S l r) (hw : x.1 40 6 = -1 ∨ LandC x F S l r (x.1 40 6)) (hs : s ≠ -1) :
    (∃ t, (ridersU x s).1 = nI t ∧ t < 1024 ∧ Best (PA l r s S) (2 ^ F) t) ∧ (ridersU x s).2.1 = (landLook s x).1 ∧ ∀ q k, q ≠ 42 → (ridersU x s).2.2 q k = (landLook s x).2 q k := by
  obtain ⟨hL, -⟩ := land_ok hB hP hw hs
  have hF := hB.1
  have hF' : F < 11 := by omega
  obtain ⟨u1, u2, u3, -⟩ := used_c F hF'
  have h40 : (landLook s x).1 40 4 = nI (usedN F) := by rw [land_40 (by decide) (by decide)]; exact hP.1
  have h21 : (landLook s x).1 21 0 = nI F := by rw [land_1 (by decide)]; exact hB.2.2.1
  unfold ridersU
  dsimp only
  generalize landLook s x = x1 at hL h40 h21
  rw [used16_eq hF' h40]
  have hc := itP_rel (f := cpL) (n := usedN F) (y := x1) (P := fun j (u : XS) => u.1 = x1.1 ∧ (∀ w, w < j → u.2 42 w = x1.2 41 w) ∧ ∀ q k, q ≠ 42 → u.2 q k = x1.2 q k)
    ⟨rfl, fun w h => absurd h (Nat.not_lt_zero w), fun _ _ _ => rfl⟩
    (fun j hj u hu => by
      unfold cpL
      refine ⟨hu.1, fun w hw => ?_, fun q k h => (rdL_ne h).trans (hu.2.2 q k h)⟩
      by_cases e : w = j
      · rw [e, rdL_eq]; exact hu.2.2 41 j (by decide)
      · rw [rdL_nk e]; exact hu.2.1 w (by omega))
  generalize itP cpL (usedN F) x1 = x2 at hc
  obtain ⟨c1, c2, c3⟩ := hc
  rw [c1, h21, nI_clamp (by omega)]
  have h7 := itP_rel (f := ridF) (n := F) (y := ((0 : Int32), x2)) (P := fun f (u : Int32 × XS) => (∃ t, u.1 = nI t ∧ Gre (Pw F (PA l r s S)) f t ∧ NSet F u.2 (fun p => Pw F (PA l r s S) p && agr t f p)) ∧ u.2.1 = x1.1 ∧ ∀ q k, q ≠ 42 → u.2.2 q k = x1.2 q k)
    ⟨⟨0, rfl, ⟨by decide, fun _ => rfl, fun ⟨p, hp⟩ => ⟨p, hp, rfl⟩, fun p _ => Or.inl rfl⟩, fun w hw b hb => by
      show bitL (x2.2 42 w) b = (_ && true)
      rw [c2 w hw, hL.1 w hw b hb, Bool.and_true]⟩, c1, c3⟩
    (fun f hf u hu => by
      obtain ⟨⟨t, t1, t2, t3⟩, e1, e2⟩ := hu
      have h4 : u.2.1 40 4 = nI (usedN F) := by rw [e1]; exact h40
      have hn := narrow_iff hF' h4 t3 (show f < 10 by omega)
      unfold ridF narrowF
      dsimp only
      by_cases hb : narrowB u.2 (nI f) = true
      · rw [if_pos hb, if_pos hb]
        obtain ⟨p, p1, p2, p3⟩ := hn.mp hb
        rw [Bool.and_eq_true] at p2
        have hg := gre_yes t2 ⟨p, p2.1, p2.2, p3⟩
        refine ⟨⟨t ||| 2 ^ f, by rw [t1, with_or f (by omega) t t2.1], hg, ?_⟩, by rw [nar_fr.1]; exact e1, fun q k h => by rw [nar_fr.2 q k h]; exact e2 q k h⟩
        have h8 := nar_set hF' h4 t3 (show f < 10 by omega)
        intro w hw b hb
        rw [h8 w hw b hb]
        show (_ && _ && _) = (_ && (agr _ f _ && (_ == (t ||| 2 ^ f).testBit f)))
        have e5 : (t ||| 2 ^ f).testBit f = true := by rw [Nat.testBit_or, Nat.testBit_two_pow, decide_eq_true rfl, Bool.or_true]
        rw [e5, agr_cong (t := t ||| 2 ^ f) (u := t) (fun j hj => by rw [Nat.testBit_or, Nat.testBit_two_pow, decide_eq_false (by omega), Bool.or_false])]
        cases (64 * w + b).testBit f <;> simp
      · rw [if_neg hb, if_neg hb]
        have hg := gre_no t2 (fun ⟨p, p1, p2, p3⟩ => hb (hn.mpr ⟨p, by
          unfold Pw at p1
          rw [Bool.and_eq_true, decide_eq_true_iff] at p1
          omega, by rw [p1, p2]; rfl, p3⟩))
        refine ⟨⟨t, t1, hg.1, fun w hw b hb => ?_⟩, e1, e2⟩
        rw [t3 w hw b hb]
        cases hp : Pw F (PA l r s S) (64 * w + b) with
        | false => dsimp only; rw [hp]; rfl
        | true => dsimp only; rw [hg.2 _ hp])
  obtain ⟨⟨t, t1, t2, -⟩, e1, e2⟩ := h7
  refine ⟨⟨t, t1, ?_, gre_best t2⟩, e1, e2⟩
  have := pow10 F hF'
  have := t2.1
  omega
