/-! Small things out of whole's rows, 2 -/
theorem xor_lt {S m k : Nat} (hm : m < 2 ^ S) (hk : k < S) : m ^^^ 2 ^ k < 2 ^ S := Nat.xor_lt_two_pow hm (Nat.pow_lt_pow_right (by decide) hk)
theorem xor_bit {m k : Nat} (hm : m < 2 ^ 20) (hk : k < 20) (j : Nat) : bit (nI (m ^^^ 2 ^ k)) j = (bit (nI m) j ^^ decide (j = k)) := by
  have := xor_lt hm hk
  rw [bit_nI (by omega), bit_nI (by omega), Nat.testBit_xor, Nat.testBit_two_pow]
  congr 1
  exact decide_eq_decide.mpr ⟨fun h => h.symm, fun h => h.symm⟩
theorem xor_nI {m k : Nat} (hm : m < 2 ^ 20) (hk : k < 20) : nI m ^^^ ((1 : Int32) <<< (nI k &&& 31)) = nI (m ^^^ 2 ^ k) := by
  apply bit_ext
  intro j hj
  rw [xor_bit hm hk, ← bit_shl1 (show k < 32 by omega) hj]
  unfold bit
  rw [Int32.toBitVec_xor, BitVec.getLsbD_xor]
theorem without_nI {m k : Nat} (hm : m < 2 ^ 20) (hk : k < 20) (hb : bit (nI m) k = true) : withoutI (nI m) (nI k) = nI (m ^^^ 2 ^ k) := by
  apply bit_ext
  intro j hj
  rw [xor_bit hm hk, bit_without (by omega) hj]
  by_cases e : j = k
  · rw [e, hb, decide_eq_true rfl]; rfl
  · rw [decide_eq_false e]; simp
theorem with_nI {m k : Nat} (hm : m < 2 ^ 20) (hk : k < 20) (hb : bit (nI m) k = false) : withI (nI m) (nI k) = nI (m ^^^ 2 ^ k) := by
  apply bit_ext
  intro j hj
  rw [xor_bit hm hk, bit_with (by omega) hj]
  by_cases e : j = k
  · rw [e, hb, decide_eq_true rfl]; rfl
  · rw [decide_eq_false e]; simp
theorem nI_leq {a b : Nat} (ha : a < 2 ^ 31) (hb : b < 2 ^ 31) : nI a ≤ nI b ↔ a ≤ b := by rw [le_nI hb, nI_clamp ha]
