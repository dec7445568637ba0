/-! Peace, by numbers: a row of rides and stays is a number -/
def holdsP (p c : Nat) : Bool := p.testBit (c / 2) == decide (c % 2 = 0)
def PA (l r : Nat → Nat) (s : Int32) : Nat → Nat → Bool
  | 0, _ => true
  | k + 1, p => PA l r s k p && (!bit s k || (holdsP p (l k) || holdsP p (r k)))
theorem bit_nI {p : Nat} (hp : p < 2 ^ 32) (j : Nat) : bit (nI p) j = p.testBit j := by
  unfold bit
  show (BitVec.ofNat 32 p).getLsbD j = p.testBit j
  rw [BitVec.getLsbD_ofNat]
  by_cases hj : j < 32
  · simp [hj]
  · rw [Nat.testBit_lt_two_pow (Nat.lt_of_lt_of_le hp (Nat.pow_le_pow_right (by decide) (by omega)))]
    simp
theorem half20 : ∀ c, c < 20 → nI c / 2 = nI (c / 2) ∧ (decide (nI c - nI c / 2 * 2 = 0)) = decide (c % 2 = 0) := by decide +kernel
theorem pow10 : ∀ F, F < 11 → ((1 : Int32) <<< (nI F &&& 31)).toNatClampNeg = 2 ^ F ∧ 2 ^ F ≤ 1024 ∧ 1 ≤ 2 ^ F := by decide +kernel
/-- a goes ahead of b: at the first place where they differ, a has a one -/
def ahead (a b : Nat) : Prop := ∃ i, a.testBit i = true ∧ b.testBit i = false ∧ ∀ j, j < i → a.testBit j = b.testBit j
theorem ahead_trans {a b c : Nat} (h1 : ahead a b) (h2 : ahead b c) : ahead a c := by
  obtain ⟨i, a1, b1, e1⟩ := h1
  obtain ⟨j, b2, c2, e2⟩ := h2
  rcases Nat.lt_trichotomy i j with h | h | h
  · exact ⟨i, a1, by rw [← e2 i h]; exact b1, fun k hk => by rw [e1 k hk, e2 k (by omega)]⟩
  · subst h; rw [b1] at b2; cases b2
  · exact ⟨j, by rw [e1 j h]; exact b2, c2, fun k hk => by rw [e1 k (by omega), e2 k hk]⟩
theorem ahead_not {a b : Nat} (h1 : ahead a b) (h2 : ahead b a) : False := by
  obtain ⟨i, a1, b1, e1⟩ := ahead_trans h1 h2
  rw [a1] at b1; cases b1
theorem low1 : ∀ d, d < 1024 → d ≠ 0 → ∃ i, i < 10 ∧ ((nI d &&& (-(nI d))) = nI (2 ^ i) ∧ d.testBit i = true ∧ ∀ j, j < i → d.testBit j = false) := by decide +kernel
theorem low2 : ∀ i, i < 10 → ∀ a, a < 1024 → decide (nI (2 ^ i) &&& nI a = 0) = !a.testBit i := by decide +kernel
theorem nI_xor {a b : Nat} (ha : a < 1024) (hb : b < 1024) : nI a ^^^ nI b = nI (a ^^^ b) := by
  have hx : a ^^^ b < 1024 := Nat.xor_lt_two_pow (n := 10) ha hb
  apply bit_ext
  intro j hj
  rw [bit_nI (by omega), Nat.testBit_xor, ← bit_nI (p := a) (by omega), ← bit_nI (p := b) (by omega)]
  unfold bit
  rw [Int32.toBitVec_xor, BitVec.getLsbD_xor]
/-- the told one of those that are so, among the first n; 0 if there is none -/
def Best (P : Nat → Bool) (n t : Nat) : Prop := ((∀ p, p < n → P p = false) ∧ t = 0) ∨ (t < n ∧ P t = true ∧ ∀ p, p < n → P p = true → p = t ∨ ahead t p)
def rideN (P : Nat → Bool) (p : Nat) : Nat := if P p then fb_ct p.testBit 10 else 0
def LookC (z : XS) (F S : Nat) (l r : Nat → Nat) (s : Int32) : Prop := z.1 0 18 = nI (fb_ct (PA l r s S) (2 ^ F)) ∧ z.1 0 19 = nI (fb_sm (rideN (PA l r s S)) (2 ^ F)) ∧ (∃ t, z.1 0 20 = nI t ∧ Best (PA l r s S) (2 ^ F) t) ∧ ∀ c, c < 2 * F → z.1 8 c = nI (fb_ct (fun p => PA l r s S p && holdsP p c) (2 ^ F))
theorem bc_small {p : Nat} (hp : p < 1024) : bcI (nI p) = nI (fb_ct p.testBit 10) := by
  rw [bcI_ct]
  congr 1
  have e : (nI p).toUInt32.toNat = p := by
    show (BitVec.ofNat 32 p).toNat = p
    rw [BitVec.toNat_ofNat, Nat.mod_eq_of_lt (by omega)]
  rw [e, show (32 : Nat) = 10 + 22 from rfl, fb_ct_split]
  have : fb_ct (fun k => p.testBit (10 + k)) 22 = 0 := fb_ct_zero.mpr (fun k _ => Nat.testBit_lt_two_pow (Nat.lt_of_lt_of_le (show p < 2 ^ 10 from hp) (Nat.pow_le_pow_right (by decide) (by omega))))
  rw [this, Nat.add_zero]
theorem ct_nz {P : Nat → Bool} {n : Nat} (hn : n ≤ 1024) : nI (fb_ct P n) = 0 ↔ ∀ p, p < n → P p = false := by
  have := fb_ct_le P n
  rw [show (0 : Int32) = nI 0 from rfl, nI_inj (by omega) (by decide), fb_ct_zero]
