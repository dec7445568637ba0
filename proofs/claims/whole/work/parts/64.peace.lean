/-! Peace, by numbers: a row of rides and stays is a number -/
def holdsP (p c : Nat) : Bool := p.testBit (c / 2) == decide (c % 2 = 0)
def PA (l r : Nat → Nat) (s : Int32) : Nat → Nat → Bool
  | 0, _ => true
  | k + 1, p => PA l r s k p && (!bit s k || (holdsP p (l k) || holdsP p (r k)))
theorem bit_nI {p : Nat} (hp : p < 2 ^ 32) (j : Nat) : bit (nI p) j = p.testBit j := by
  unfold bit
  show (BitVec.ofNat 32 p).getLsbD j = p.testBit j
  rw [BitVec.getLsbD_ofNat]
  by_cases hj : j < 32
  · simp [hj]
  · rw [Nat.testBit_lt_two_pow (Nat.lt_of_lt_of_le hp (Nat.pow_le_pow_right (by decide) (by omega)))]
    simp
theorem half20 : ∀ c, c < 20 → nI c / 2 = nI (c / 2) ∧ (decide (nI c - nI c / 2 * 2 = 0)) = decide (c % 2 = 0) := by decide +kernel
theorem mholds_eq {p c : Nat} (hp : p < 1024) (hc : c < 20) : mholdsB (nI p) (nI c) = holdsP p c := by
  obtain ⟨h1, h2⟩ := half20 c hc
  unfold mholdsB holdsP
  rw [h2, h1, mhasB_bit (by omega), bit_nI (by omega)]
  cases p.testBit (c / 2) <;> cases decide (c % 2 = 0) <;> rfl
theorem PA_more {l r : Nat → Nat} {s : Int32} {S : Nat} {z : XS} {p : Nat} (hp : p < 1024) (hl : ∀ k, k < S → l k < 20 ∧ r k < 20) (hb : ∀ k, k < S → oneF z 11 (nI k) = nI (l k) ∧ otherF z 11 (nI k) = nI (r k)) (hS : S ≤ 20) : ∀ (n j : Nat), j + n ≤ S → (PA l r s j p && peaceL z (nI p) s n j) = PA l r s (j + n) p
  | 0, j, _ => by show (_ && true) = _; rw [Bool.and_true]; rfl
  | n + 1, j, h => by
    have ih := PA_more (s := s) hp hl hb hS n (j + 1) (by omega)
    rw [show j + (n + 1) = j + 1 + n by omega, ← ih]
    obtain ⟨b1, b2⟩ := hb j (by omega)
    obtain ⟨l1, l2⟩ := hl j (by omega)
    rw [show peaceL z (nI p) s (n + 1) j = (if mhasB s (nI j) then (if mholdsB (nI p) (oneF z 11 (nI j)) then peaceL z (nI p) s n (j + 1) else if mholdsB (nI p) (otherF z 11 (nI j)) then peaceL z (nI p) s n (j + 1) else false) else peaceL z (nI p) s n (j + 1)) from rfl]
    generalize peaceL z (nI p) s n (j + 1) = q
    rw [b1, b2, mhasB_bit (show j < 32 by omega), mholds_eq hp l1, mholds_eq hp l2]
    show _ = (PA l r s j p && (!bit s j || (holdsP p (l j) || holdsP p (r j))) && _)
    cases bit s j <;> cases holdsP p (l j) <;> cases holdsP p (r j) <;> cases PA l r s j p <;> simp
theorem peace_eq {z : XS} {F S : Nat} {l r : Nat → Nat} {s : Int32} (hB : BkZ z F S l r) {p : Nat} (hp : p < 1024) : peaceF z (nI p) s = PA l r s S p := by
  obtain ⟨hF, hS, -, eS, hlt, hlr⟩ := hB
  unfold peaceF
  rw [eS, nI_clamp (by omega)]
  have := PA_more (s := s) hp (fun k hk => ⟨by have := hlt k hk; omega, by have := hlt k hk; omega⟩) hlr hS S 0 (by omega)
  rw [Nat.zero_add] at this
  rw [← this]
  show _ = (true && _)
  rw [Bool.true_and]
theorem pow10 : ∀ F, F < 11 → ((1 : Int32) <<< (nI F &&& 31)).toNatClampNeg = 2 ^ F ∧ 2 ^ F ≤ 1024 ∧ 1 ≤ 2 ^ F := by decide +kernel
theorem any_eq {z : XS} {b : Int32} {P : Nat → Bool} : ∀ (n j : Nat), (∀ p, p < j + n → peaceF z (nI p) b = P p) → (anyL z b n j = true ↔ ∃ p, j ≤ p ∧ p < j + n ∧ P p = true)
  | 0, j, _ => by
    show (false = true) ↔ _
    exact ⟨fun h => (by cases h), fun ⟨p, h1, h2, _⟩ => by omega⟩
  | n + 1, j, h => by
    have ih := any_eq n (j + 1) (fun p hp => h p (by omega))
    show ((if peaceF z (nI j) b then true else anyL z b n (j + 1)) = true) ↔ _
    rw [h j (by omega)]
    cases hj : P j with
    | true => rw [if_pos rfl]; exact ⟨fun _ => ⟨j, Nat.le_refl j, by omega, hj⟩, fun _ => rfl⟩
    | false =>
      rw [if_neg (by decide), ih]
      exact ⟨fun ⟨p, h1, h2, h3⟩ => ⟨p, by omega, by omega, h3⟩, fun ⟨p, h1, h2, h3⟩ => ⟨p, (by
        rcases Nat.lt_or_ge j p with q | q
        · exact q
        · have e : p = j := by omega
          rw [e, hj] at h3; cases h3), by omega, h3⟩⟩
theorem anyF_eq {z : XS} {F S : Nat} {l r : Nat → Nat} {s : Int32} (hB : BkZ z F S l r) : anyF z s = true ↔ 0 < fb_ct (PA l r s S) (2 ^ F) := by
  obtain ⟨h1, h2, -⟩ := pow10 F (by have := hB.1; omega)
  unfold anyF
  rw [hB.2.2.1, h1, fb_ct_pos, any_eq (P := PA l r s S) _ _ (fun p hp => peace_eq hB (by omega))]
  exact ⟨fun ⟨p, _, h, h3⟩ => ⟨p, by omega, h3⟩, fun ⟨p, h, h3⟩ => ⟨p, Nat.zero_le _, by omega, h3⟩⟩
/-- a goes ahead of b: at the first place where they differ, a has a one -/
def ahead (a b : Nat) : Prop := ∃ i, a.testBit i = true ∧ b.testBit i = false ∧ ∀ j, j < i → a.testBit j = b.testBit j
theorem ahead_trans {a b c : Nat} (h1 : ahead a b) (h2 : ahead b c) : ahead a c := by
  obtain ⟨i, a1, b1, e1⟩ := h1
  obtain ⟨j, b2, c2, e2⟩ := h2
  rcases Nat.lt_trichotomy i j with h | h | h
  · exact ⟨i, a1, by rw [← e2 i h]; exact b1, fun k hk => by rw [e1 k hk, e2 k (by omega)]⟩
  · subst h; rw [b1] at b2; cases b2
  · exact ⟨j, by rw [e1 j h]; exact b2, c2, fun k hk => by rw [e1 k (by omega), e2 k hk]⟩
theorem ahead_not {a b : Nat} (h1 : ahead a b) (h2 : ahead b a) : False := by
  obtain ⟨i, a1, b1, e1⟩ := ahead_trans h1 h2
  rw [a1] at b1; cases b1
theorem low1 : ∀ d, d < 1024 → d ≠ 0 → ∃ i, i < 10 ∧ ((nI d &&& (-(nI d))) = nI (2 ^ i) ∧ d.testBit i = true ∧ ∀ j, j < i → d.testBit j = false) := by decide +kernel
theorem low2 : ∀ i, i < 10 → ∀ a, a < 1024 → decide (nI (2 ^ i) &&& nI a = 0) = !a.testBit i := by decide +kernel
theorem nI_xor {a b : Nat} (ha : a < 1024) (hb : b < 1024) : nI a ^^^ nI b = nI (a ^^^ b) := by
  have hx : a ^^^ b < 1024 := Nat.xor_lt_two_pow (n := 10) ha hb
  apply bit_ext
  intro j hj
  rw [bit_nI (by omega), Nat.testBit_xor, ← bit_nI (p := a) (by omega), ← bit_nI (p := b) (by omega)]
  unfold bit
  rw [Int32.toBitVec_xor, BitVec.getLsbD_xor]
theorem ahead_eq {a b : Nat} (ha : a < 1024) (hb : b < 1024) : (aheadB (nI a) (nI b) = true ↔ ahead a b) ∧ (aheadB (nI a) (nI b) = false → a = b ∨ ahead b a) := by
  unfold aheadB
  rw [nI_xor ha hb]
  by_cases hd : a ^^^ b = 0
  · have e : a = b := by
      apply Nat.eq_of_testBit_eq
      intro i
      have := congrArg (fun n => n.testBit i) hd
      simp only [Nat.testBit_xor, Nat.zero_testBit] at this
      cases h1 : a.testBit i <;> cases h2 : b.testBit i <;> simp_all
    subst e
    rw [hd]
    have h0 : (nI 0 &&& -(nI 0)) &&& nI a = 0 := by rw [show nI 0 &&& -(nI 0) = 0 from rfl]; simp
    refine ⟨⟨fun h => absurd h0 (of_decide_eq_true h), fun h => (ahead_not h h).elim⟩, fun _ => Or.inl rfl⟩
  · obtain ⟨i, hi, e1, e2, e3⟩ := low1 _ (Nat.xor_lt_two_pow (n := 10) ha hb) hd
    rw [e1]
    have e4 := low2 i hi a ha
    have ho : ∀ j, j < i → a.testBit j = b.testBit j := fun j hj => by
      have := e3 j hj
      rw [Nat.testBit_xor] at this
      cases h1 : a.testBit j <;> cases h2 : b.testBit j <;> simp_all
    rw [Nat.testBit_xor] at e2
    cases h1 : a.testBit i with
    | true =>
      have h2 : b.testBit i = false := by cases h2 : b.testBit i <;> simp_all
      have hne : ¬ (nI (2 ^ i) &&& nI a = 0) := by rw [h1] at e4; exact of_decide_eq_false e4
      rw [decide_eq_true hne]
      exact ⟨⟨fun _ => ⟨i, h1, h2, ho⟩, fun _ => rfl⟩, fun h => by cases h⟩
    | false =>
      have h2 : b.testBit i = true := by cases h2 : b.testBit i <;> simp_all
      have hne : nI (2 ^ i) &&& nI a = 0 := by rw [h1] at e4; exact of_decide_eq_true e4
      rw [hne]
      have hb' : ahead b a := ⟨i, h2, h1, fun j hj => (ho j hj).symm⟩
      refine ⟨⟨fun h => absurd h (by decide), fun h => (ahead_not h hb').elim⟩, fun _ => Or.inr hb'⟩
/-- the told one of those that are so, among the first n; 0 if there is none -/
def Best (P : Nat → Bool) (n t : Nat) : Prop := ((∀ p, p < n → P p = false) ∧ t = 0) ∨ (t < n ∧ P t = true ∧ ∀ p, p < n → P p = true → p = t ∨ ahead t p)
def rideN (P : Nat → Bool) (p : Nat) : Nat := if P p then fb_ct p.testBit 10 else 0
def LookC (z : XS) (F S : Nat) (l r : Nat → Nat) (s : Int32) : Prop := z.1 0 18 = nI (fb_ct (PA l r s S) (2 ^ F)) ∧ z.1 0 19 = nI (fb_sm (rideN (PA l r s S)) (2 ^ F)) ∧ (∃ t, z.1 0 20 = nI t ∧ Best (PA l r s S) (2 ^ F) t) ∧ ∀ c, c < 2 * F → z.1 8 c = nI (fb_ct (fun p => PA l r s S p && holdsP p c) (2 ^ F))
theorem bc_small {p : Nat} (hp : p < 1024) : bcI (nI p) = nI (fb_ct p.testBit 10) := by
  rw [bcI_ct]
  congr 1
  have e : (nI p).toUInt32.toNat = p := by
    show (BitVec.ofNat 32 p).toNat = p
    rw [BitVec.toNat_ofNat, Nat.mod_eq_of_lt (by omega)]
  rw [e, show (32 : Nat) = 10 + 22 from rfl, fb_ct_split]
  have : fb_ct (fun k => p.testBit (10 + k)) 22 = 0 := fb_ct_zero.mpr (fun k _ => Nat.testBit_lt_two_pow (Nat.lt_of_lt_of_le (show p < 2 ^ 10 from hp) (Nat.pow_le_pow_right (by decide) (by omega))))
  rw [this, Nat.add_zero]
theorem ct_nz {P : Nat → Bool} {n : Nat} (hn : n ≤ 1024) : nI (fb_ct P n) = 0 ↔ ∀ p, p < n → P p = false := by
  have := fb_ct_le P n
  rw [show (0 : Int32) = nI 0 from rfl, nI_inj (by omega) (by decide), fb_ct_zero]
