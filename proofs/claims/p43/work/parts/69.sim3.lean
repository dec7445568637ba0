/-! Peaces by families: those that agree with a beginning -/
def Wn (b : Bok) (m nx p t : Nat) : Bool := PA (bl b) (br b) (nI m) (bS b) t && agr p nx t
def cN (W : Nat → Bool) (F j : Nat) : Nat := if j = 0 then fb_ct W (2 ^ F) else if j = 1 then fb_sm (rideN W) (2 ^ F) else fb_ct (fun t => W t && holdsP t (j - 2)) (2 ^ F)
theorem cN_or {A B W : Nat → Bool} {F : Nat} (h1 : ∀ t, t < 2 ^ F → ¬ (A t = true ∧ B t = true)) (h2 : ∀ t, t < 2 ^ F → W t = (A t || B t)) (j : Nat) : cN W F j = cN A F j + cN B F j := by
  unfold cN
  by_cases j0 : j = 0
  · rw [if_pos j0, if_pos j0, if_pos j0, fb_ct_cong h2, fb_ct_or h1]
  by_cases j1 : j = 1
  · rw [if_neg j0, if_pos j1, if_neg j0, if_pos j1, if_neg j0, if_pos j1, ← fb_sm_add]
    refine fb_sm_cong fun t ht => ?_
    unfold rideN
    rw [h2 t ht]
    have := h1 t ht
    cases hA : A t <;> cases hB : B t <;> simp_all
  · rw [if_neg j0, if_neg j1, if_neg j0, if_neg j1, if_neg j0, if_neg j1, ← fb_ct_or (fun t ht z => by
      simp only [Bool.and_eq_true] at z
      exact h1 t ht ⟨z.1.1, z.2.1⟩)]
    refine fb_ct_cong fun t ht => ?_
    rw [h2 t ht]
    cases A t <;> cases B t <;> cases holdsP t (j - 2) <;> rfl
theorem cN_none {W : Nat → Bool} {F : Nat} (h : ∀ t, t < 2 ^ F → W t = false) (j : Nat) : cN W F j = 0 := by
  unfold cN
  split
  · exact fb_ct_zero.mpr h
  split
  · rw [fb_sm_cong (g := fun _ => 0) (fun t ht => by unfold rideN; rw [h t ht]; rfl), fb_sm_const]; omega
  · exact fb_ct_zero.mpr (fun t ht => by rw [h t ht]; rfl)
theorem ct_one {p : Nat} (u : Bool) : ∀ {n : Nat}, p < n → fb_ct (fun t => decide (t = p) && u) n = if u then 1 else 0
  | 0, h => absurd h (by omega)
  | n + 1, h => by
    rw [fb_ct_succ]
    by_cases hn : n = p
    · have : fb_ct (fun t => decide (t = p) && u) n = 0 := fb_ct_zero.mpr (fun t ht => by rw [decide_eq_false (by omega)]; rfl)
      rw [this, decide_eq_true hn]; cases u <;> rfl
    · rw [ct_one u (show p < n by omega), decide_eq_false hn]; cases u <;> rfl
theorem cN_one {W : Nat → Bool} {F p : Nat} (hp : p < 2 ^ F) (h : ∀ t, t < 2 ^ F → W t = decide (t = p)) (j : Nat) : cN W F j = if j = 0 then 1 else if j = 1 then fb_ct p.testBit 10 else if holdsP p (j - 2) then 1 else 0 := by
  unfold cN
  split
  · rw [fb_ct_cong (q := fun t => decide (t = p) && true) (fun t ht => by rw [h t ht, Bool.and_true]), ct_one true hp]; rfl
  split
  · have : ∀ n, n ≤ 2 ^ F → fb_sm (rideN W) n = if p < n then fb_ct p.testBit 10 else 0 := by
      intro n
      induction n with
      | zero => intro _; rw [if_neg (by omega)]; rfl
      | succ n ih =>
        intro hn
        rw [fb_sm_succ, ih (by omega)]
        unfold rideN
        rw [h n (by omega)]
        by_cases e : n = p
        · subst e
          rw [if_neg (Nat.lt_irrefl n), if_pos (Nat.lt_succ_self n), if_pos (decide_eq_true rfl), Nat.zero_add]
        · have hd : decide (n = p) = false := decide_eq_false e
          rw [hd]
          by_cases hl : p < n
          · rw [if_pos hl, if_pos (Nat.lt_succ_of_lt hl)]; rfl
          · rw [if_neg hl, if_neg (show ¬ p < n + 1 by omega)]; rfl
    rw [this _ (Nat.le_refl _), if_pos hp]
  · rw [fb_ct_cong (q := fun t => decide (t = p) && holdsP p (j - 2)) (fun t ht => by
      rw [h t ht]
      by_cases e : t = p
      · rw [e]
      · rw [decide_eq_false e]; rfl), ct_one _ hp]
theorem bit_add {p nx : Nat} (hp : p < 2 ^ nx) (j : Nat) : (p + 2 ^ nx).testBit j = if j = nx then true else p.testBit j := by
  rw [show p + 2 ^ nx = 2 ^ nx * 1 + p by omega, Nat.testBit_two_pow_mul_add 1 hp j]
  by_cases h : j < nx
  · rw [if_pos h, if_neg (by omega)]
  · rw [if_neg h]
    by_cases e : j = nx
    · subst e; rw [if_pos rfl, Nat.sub_self]; rfl
    · rw [if_neg e, Nat.testBit_lt_two_pow (Nat.lt_of_lt_of_le hp (Nat.pow_le_pow_right (by decide) (by omega)))]
      obtain ⟨i, hi⟩ : ∃ i, j - nx = i + 1 := ⟨j - nx - 1, by omega⟩
      rw [hi, Nat.testBit_succ]
      show Nat.testBit 0 i = false
      exact Nat.zero_testBit i
theorem bit_top {p nx : Nat} (hp : p < 2 ^ nx) : p.testBit nx = false := Nat.testBit_lt_two_pow hp
theorem Wn_split {b : Bok} {m nx p : Nat} (hp : p < 2 ^ nx) (t : Nat) : Wn b m nx p t = (Wn b m (nx + 1) (p + 2 ^ nx) t || Wn b m (nx + 1) p t) ∧ ¬ (Wn b m (nx + 1) (p + 2 ^ nx) t = true ∧ Wn b m (nx + 1) p t = true) := by
  have e1 : agr (p + 2 ^ nx) (nx + 1) t = (agr p nx t && t.testBit nx) := by
    apply Bool.eq_iff_iff.mpr
    rw [Bool.and_eq_true, agr_iff, agr_iff]
    constructor
    · intro h
      refine ⟨fun j hj => ?_, ?_⟩
      · have := h j (by omega); rw [bit_add hp, if_neg (by omega)] at this; exact this
      · have := h nx (by omega); rw [bit_add hp, if_pos rfl] at this; exact this
    · rintro ⟨h, h2⟩ j hj
      rw [bit_add hp]
      by_cases e : j = nx
      · rw [if_pos e, e]; exact h2
      · rw [if_neg e]; exact h j (by omega)
  have e2 : agr p (nx + 1) t = (agr p nx t && !t.testBit nx) := by
    apply Bool.eq_iff_iff.mpr
    rw [Bool.and_eq_true, agr_iff, agr_iff, Bool.not_eq_true']
    constructor
    · intro h
      refine ⟨fun j hj => h j (by omega), ?_⟩
      have := h nx (by omega); rw [bit_top hp] at this; exact this
    · rintro ⟨h, h2⟩ j hj
      by_cases e : j = nx
      · rw [e, bit_top hp]; exact h2
      · exact h j (by omega)
  unfold Wn
  rw [e1, e2]
  cases PA (bl b) (br b) (nI m) (bS b) t <;> cases agr p nx t <;> cases t.testBit nx <;> decide
theorem PA_kept {b : Bok} (hW : BW b) {m : Nat} (hm : m < 2 ^ 32) {t : Nat} : ∀ {n : Nat}, n ≤ bS b → (PA (bl b) (br b) (nI m) n t = true ↔ ∀ s, s < n → keptB (bk b s) (b1 b s) (b2 b s) (m.testBit s) t = true)
  | 0, _ => ⟨fun _ s hs => absurd hs (by omega), fun _ => rfl⟩
  | n + 1, hn => by
    rw [PA, Bool.and_eq_true, PA_kept hW hm (by omega), bit_nI hm, ← kept_lr hW (show n < bS b by omega)]
    constructor
    · rintro ⟨h1, h2⟩ s hs
      by_cases e : s = n
      · subst e; exact h2
      · exact h1 s (by omega)
    · intro h
      exact ⟨fun s hs => h s (by omega), h n (by omega)⟩
theorem holds_agr {p nx t c : Nat} (h : agr p nx t = true) (hc : c / 2 < nx) : holdsP t c = holdsP p c := by
  unfold holdsP
  rw [agr_iff.mp h _ hc]
theorem kept_agr {p nx t kd c1 c2 : Nat} {on : Bool} (h : agr p nx t = true) (h1 : c1 / 2 < nx) (h2 : c2 / 2 < nx) : keptB kd c1 c2 on t = keptB kd c1 c2 on p := by
  unfold keptB
  rw [holds_agr h h1, holds_agr h h2]
theorem Wn_dead {b : Bok} (hW : BW b) {m nx p s : Nat} (hm : m < 2 ^ 32) (hs : s < bS b) (h1 : b1 b s / 2 < nx) (h2 : b2 b s / 2 < nx) (hk : keptB (bk b s) (b1 b s) (b2 b s) (m.testBit s) p = false) (t : Nat) : Wn b m nx p t = false := by
  unfold Wn
  cases ha : agr p nx t
  · exact Bool.and_false _
  · cases hp : PA (bl b) (br b) (nI m) (bS b) t
    · rfl
    · have := (PA_kept hW hm (Nat.le_refl _)).mp hp s hs
      rw [kept_agr ha h1 h2, hk] at this
      cases this
theorem Wn_leaf {b : Bok} (hW : BW b) {m p : Nat} (hm : m < 2 ^ 32) (hp : p < 2 ^ bF b) (hk : ∀ s, s < bS b → keptB (bk b s) (b1 b s) (b2 b s) (m.testBit s) p = true) (t : Nat) (ht : t < 2 ^ bF b) : Wn b m (bF b) p t = decide (t = p) := by
  unfold Wn
  by_cases e : t = p
  · rw [e, decide_eq_true rfl, (PA_kept hW hm (Nat.le_refl _)).mpr hk, agr_iff.mpr (fun _ _ => rfl)]; rfl
  · rw [decide_eq_false e]
    cases ha : agr p (bF b) t
    · exact Bool.and_false _
    · exact absurd (lt_bits ht hp (fun j hj => agr_iff.mp ha j hj)) e
theorem Best_or {A B W : Nat → Bool} {n t : Nat} (h2 : ∀ u, u < n → W u = (A u || B u)) (hA : Best A n t) (hne : fb_ct A n ≠ 0) (hd : ∀ u, u < n → B u = true → A t = true → ahead t u) : Best W n t := by
  rcases hA with ⟨h, _⟩ | ⟨h, h3, h4⟩
  · exact absurd (fb_ct_zero.mpr h) hne
  · refine Or.inr ⟨h, by rw [h2 t h, h3]; rfl, fun u hu hW => ?_⟩
    rw [h2 u hu, Bool.or_eq_true] at hW
    rcases hW with hW | hW
    · exact h4 u hu hW
    · exact Or.inr (hd u hu hW h3)
theorem Best_cong {A W : Nat → Bool} {n t : Nat} (h2 : ∀ u, u < n → W u = A u) (hA : Best A n t) : Best W n t := by
  rcases hA with ⟨h, h1⟩ | ⟨h, h3, h4⟩
  · exact Or.inl ⟨fun u hu => by rw [h2 u hu]; exact h u hu, h1⟩
  · exact Or.inr ⟨h, by rw [h2 t h]; exact h3, fun u hu hW => h4 u hu (by rw [← h2 u hu]; exact hW)⟩
theorem Wn_ahead {b : Bok} {m nx p t u : Nat} (hp : p < 2 ^ nx) (h1 : Wn b m (nx + 1) (p + 2 ^ nx) t = true) (h2 : Wn b m (nx + 1) p u = true) : ahead t u := by
  unfold Wn at h1 h2
  rw [Bool.and_eq_true] at h1 h2
  have a1 := agr_iff.mp h1.2
  have a2 := agr_iff.mp h2.2
  refine ⟨nx, by rw [a1 nx (by omega), bit_add hp, if_pos rfl], by rw [a2 nx (by omega), bit_top hp], fun j hj => ?_⟩
  rw [a1 j (by omega), bit_add hp, if_neg (by omega), a2 j (by omega)]
/-- the end of a count -/
def CEnd (x x' : XS) (b : Bok) (m nx p qd qm qt : Nat) (mk : Nat → Nat) : Prop :=
  (∀ i j, i ≠ qd → i ≠ qm → i ≠ qt → x'.1 i j = x.1 i j) ∧ x'.2 = x.2 ∧ (∀ f, f < nx → x'.1 qd f = x.1 qd f) ∧ (∀ j, j < 2 + 2 * bF b → x'.1 qm j = nI (mk j + cN (Wn b m nx p) (bF b) j)) ∧ ((mk 0 ≠ 0 ∨ cN (Wn b m nx p) (bF b) 0 = 0) → ∀ f, x'.1 qt f = x.1 qt f) ∧ (mk 0 = 0 → cN (Wn b m nx p) (bF b) 0 ≠ 0 → ∃ t, Best (Wn b m nx p) (2 ^ bF b) t ∧ ∀ f, f < bF b → x'.1 qt f = b2i (!t.testBit f))
