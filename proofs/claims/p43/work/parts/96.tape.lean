/-! Four bytes in an int, and back -/
theorem bit_shl8 (v : Int32) {j : Nat} (hj : j < 32) : bit (v <<< ((8 : Int32) &&& 31)) j = (decide (8 ≤ j) && bit v (j - 8)) := by
  unfold bit
  have e : (v <<< ((8 : Int32) &&& 31)).toBitVec = v.toBitVec <<< 8 := rfl
  rw [e, BitVec.getLsbD_shiftLeft]
  by_cases h : j < 8
  · simp [h, hj, show ¬ 8 ≤ j by omega]
  · simp [h, hj, show 8 ≤ j by omega]
theorem bit_low {b : Nat} (hb : b < 128) {j : Nat} (hj : 7 ≤ j) : b.testBit j = false := Nat.testBit_lt_two_pow (Nat.lt_of_lt_of_le hb (by
  calc 128 = 2 ^ 7 := rfl
    _ ≤ 2 ^ j := Nat.pow_le_pow_right (by decide) hj))
def packW (v : Int32) (b0 b1 b2 b3 : Nat) : Int32 := ((((v <<< ((8 : Int32) &&& 31) ||| nI b0) <<< ((8 : Int32) &&& 31) ||| nI b1) <<< ((8 : Int32) &&& 31) ||| nI b2) <<< ((8 : Int32) &&& 31) ||| nI b3)
theorem bit_pack {v : Int32} {b0 b1 b2 b3 : Nat} (h0 : b0 < 128) (h1 : b1 < 128) (h2 : b2 < 128) (h3 : b3 < 128) {j : Nat} (hj : j < 32) : bit (packW v b0 b1 b2 b3) j = if j < 8 then b3.testBit j else if j < 16 then b2.testBit (j - 8) else if j < 24 then b1.testBit (j - 16) else b0.testBit (j - 24) := by
  unfold packW
  have hn : ∀ (b : Nat), b < 128 → ∀ i, bit (nI b) i = b.testBit i := fun b hb i => bit_nI (by omega) i
  rw [bit_or, hn b3 h3, bit_shl8 _ hj]
  by_cases a1 : j < 8
  · rw [if_pos a1, decide_eq_false (by omega), Bool.false_and, Bool.false_or]
  · rw [if_neg a1, decide_eq_true (by omega), Bool.true_and, bit_low h3 (by omega), Bool.or_false, bit_or, hn b2 h2, bit_shl8 _ (by omega)]
    by_cases a2 : j < 16
    · rw [if_pos a2, decide_eq_false (by omega), Bool.false_and, Bool.false_or]
    · rw [if_neg a2, decide_eq_true (by omega), Bool.true_and, bit_low h2 (by omega), Bool.or_false, bit_or, hn b1 h1, bit_shl8 _ (by omega), show j - 8 - 8 = j - 16 by omega]
      by_cases a3 : j < 24
      · rw [if_pos a3, decide_eq_false (by omega), Bool.false_and, Bool.false_or]
      · rw [if_neg a3, decide_eq_true (by omega), Bool.true_and, bit_low h1 (by omega), Bool.or_false, bit_or, hn b0 h0, bit_shl8 _ (by omega), show j - 16 - 8 = j - 24 by omega, decide_eq_false (by omega), Bool.false_and, Bool.false_or]
theorem byte_bits {u : Int32} {b : Nat} (hb : b < 128) (h : ∀ j, j < 8 → bit u j = b.testBit j) : u.toInt8.toInt32 = nI b := by
  apply bit_ext
  intro j hj
  rw [bit_nI (by omega)]
  have e : bit u.toInt8.toInt32 j = if j < 8 then bit u j else bit u 7 := by
    unfold bit
    show ((u.toBitVec.signExtend 8).signExtend 32).getLsbD j = _
    rw [BitVec.getLsbD_signExtend]
    by_cases h8 : j < 8
    · rw [if_pos h8, if_pos h8, BitVec.getLsbD_signExtend]; simp [h8, hj]
    · rw [if_neg h8, if_neg h8, BitVec.msb_eq_getLsbD_last, BitVec.getLsbD_signExtend]; simp [hj]
  rw [e]
  by_cases h8 : j < 8
  · rw [if_pos h8]; exact h j h8
  · rw [if_neg h8, h 7 (by decide), bit_low hb (Nat.le_refl 7), bit_low hb (by omega)]
theorem bit_sar (v : Int32) (s : Nat) (hs : s = 0 ∨ s = 8 ∨ s = 16 ∨ s = 24) {j : Nat} (hj : j + s < 32) : bit (v >>> (nI s &&& 31)) j = bit v (j + s) := by
  unfold bit
  have e : (v >>> (nI s &&& 31)).toBitVec = v.toBitVec.sshiftRight s := by
    rcases hs with rfl | rfl | rfl | rfl <;> rfl
  rw [e, BitVec.getLsbD_sshiftRight]
  simp [hj, show ¬ 32 ≤ j by omega, Nat.add_comm]
  intro h; omega
theorem pack_at {v : Int32} {b0 b1 b2 b3 : Nat} (h0 : b0 < 128) (h1 : b1 < 128) (h2 : b2 < 128) (h3 : b3 < 128) : (packW v b0 b1 b2 b3 >>> (nI 24 &&& 31)).toInt8.toInt32 = nI b0 ∧ (packW v b0 b1 b2 b3 >>> (nI 16 &&& 31)).toInt8.toInt32 = nI b1 ∧ (packW v b0 b1 b2 b3 >>> (nI 8 &&& 31)).toInt8.toInt32 = nI b2 ∧ (packW v b0 b1 b2 b3 >>> (nI 0 &&& 31)).toInt8.toInt32 = nI b3 := by
  refine ⟨byte_bits h0 (fun j hj => ?_), byte_bits h1 (fun j hj => ?_), byte_bits h2 (fun j hj => ?_), byte_bits h3 (fun j hj => ?_)⟩
  · rw [bit_sar _ 24 (by omega) (by omega), bit_pack h0 h1 h2 h3 (by omega), if_neg (by omega), if_neg (by omega), if_neg (by omega), Nat.add_sub_cancel]
  · rw [bit_sar _ 16 (by omega) (by omega), bit_pack h0 h1 h2 h3 (by omega), if_neg (by omega), if_neg (by omega), if_pos (by omega), Nat.add_sub_cancel]
  · rw [bit_sar _ 8 (by omega) (by omega), bit_pack h0 h1 h2 h3 (by omega), if_neg (by omega), if_pos (by omega), Nat.add_sub_cancel]
  · rw [bit_sar _ 0 (by omega) (by omega), bit_pack h0 h1 h2 h3 (by omega), if_pos (by omega), Nat.add_zero]
/-- the tape holds these bytes -/
def Tape (x : XS) (n : Nat) (t : Nat → Nat) : Prop := x.1 1 1 = nI n ∧ ∀ k, k < n → x.1 2 k = nI (t k)
theorem apF_ok {x : XS} {n : Nat} (h : x.1 1 1 = nI n) (hn : n < 2000) (v sh : Int32) : apF1 x v sh = setI (setI x 2 n (v >>> (sh &&& 31)).toInt8.toInt32) 1 1 (nI (n + 1)) := by
  unfold apF1
  rw [h, if_neg (nI_pos (by omega)), if_neg (fun z => by have := (nI_leq (by decide) (by omega)).mp z; omega), nI_clamp (by omega), nI_1]
theorem apF_tape {x : XS} {n : Nat} {t : Nat → Nat} (hT : Tape x n t) (hn : n < 2000) {v sh : Int32} (hb : (v >>> (sh &&& 31)).toInt8.toInt32 = nI (t n)) : Tape (apF1 x v sh) (n + 1) t ∧ ∀ i, i ≠ 1 → i ≠ 2 → ∀ j, (apF1 x v sh).1 i j = x.1 i j ∧ (apF1 x v sh).2 i j = x.2 i j := by
  rw [apF_ok hT.1 hn, hb]
  refine ⟨⟨by simp [setI], fun k hk => ?_⟩, fun i h1 h2 j => ⟨by simp [setI, h1, h2], rfl⟩⟩
  by_cases e : k = n
  · subst e; simp [setI]
  · have := hT.2 k (by omega)
    simp [setI, e]; exact this
theorem append_tape {x : XS} {n : Nat} {t : Nat → Nat} (hT : Tape x n t) (hn : n + 4 ≤ 2000) {v : Int32} (h0 : t n < 128) (h1 : t (n + 1) < 128) (h2 : t (n + 2) < 128) (h3 : t (n + 3) < 128) : Tape (appendF x (packW v (t n) (t (n + 1)) (t (n + 2)) (t (n + 3)))) (n + 4) t ∧ ∀ i, i ≠ 1 → i ≠ 2 → ∀ j, (appendF x (packW v (t n) (t (n + 1)) (t (n + 2)) (t (n + 3)))).1 i j = x.1 i j ∧ (appendF x (packW v (t n) (t (n + 1)) (t (n + 2)) (t (n + 3)))).2 i j = x.2 i j := by
  obtain ⟨p0, p1, p2, p3⟩ := pack_at (v := v) h0 h1 h2 h3
  unfold appendF
  rw [show (24 : Int32) + Int32.ofInt (-8) + Int32.ofInt (-8) + Int32.ofInt (-8) = nI 0 by decide, show (24 : Int32) + Int32.ofInt (-8) + Int32.ofInt (-8) = nI 8 by decide, show (24 : Int32) + Int32.ofInt (-8) = nI 16 by decide, show (24 : Int32) = nI 24 from rfl]
  obtain ⟨a1, b1⟩ := apF_tape hT (by omega) p0
  obtain ⟨a2, b2⟩ := apF_tape a1 (by omega) p1
  obtain ⟨a3, b3⟩ := apF_tape a2 (by omega) p2
  obtain ⟨a4, b4⟩ := apF_tape a3 (by omega) p3
  refine ⟨a4, fun i hi1 hi2 j => ?_⟩
  have c1 := b1 i hi1 hi2 j
  have c2 := b2 i hi1 hi2 j
  have c3 := b3 i hi1 hi2 j
  have c4 := b4 i hi1 hi2 j
  exact ⟨((c4.1.trans c3.1).trans c2.1).trans c1.1, ((c4.2.trans c3.2).trans c2.2).trans c1.2⟩
theorem feed_tape {x : XS} {n : Nat} {t : Nat → Nat} (hT : Tape x n t) (hn : n ≤ 1980) (ht : ∀ k, t k < 128) (v0 v1 v2 v3 v4 : Int32) : ∃ x', f_X8_feed (packW v0 (t n) (t (n + 1)) (t (n + 2)) (t (n + 3))) (packW v1 (t (n + 4)) (t (n + 5)) (t (n + 6)) (t (n + 7))) (packW v2 (t (n + 8)) (t (n + 9)) (t (n + 10)) (t (n + 11))) (packW v3 (t (n + 12)) (t (n + 13)) (t (n + 14)) (t (n + 15))) (packW v4 (t (n + 16)) (t (n + 17)) (t (n + 18)) (t (n + 19))) x = some (.inr (some (.int (nI (n + 20))), x')) ∧ Tape x' (n + 20) t ∧ ∀ i, i ≠ 1 → i ≠ 2 → ∀ j, x'.1 i j = x.1 i j ∧ x'.2 i j = x.2 i j := by
  obtain ⟨a1, b1⟩ := append_tape hT (by omega) (v := v0) (ht _) (ht _) (ht _) (ht _)
  obtain ⟨a2, b2⟩ := append_tape a1 (by omega) (v := v1) (ht _) (ht _) (ht _) (ht _)
  obtain ⟨a3, b3⟩ := append_tape a2 (by omega) (v := v2) (ht _) (ht _) (ht _) (ht _)
  obtain ⟨a4, b4⟩ := append_tape a3 (by omega) (v := v3) (ht _) (ht _) (ht _) (ht _)
  obtain ⟨a5, b5⟩ := append_tape a4 (by omega) (v := v4) (ht _) (ht _) (ht _) (ht _)
  simp only [Nat.add_assoc, Nat.reduceAdd] at a2 a3 a4 a5 b2 b3 b4 b5
  refine ⟨_, ?_, a5, fun i hi1 hi2 j => ?_⟩
  · unfold f_X8_feed
    rw [hT.1, if_pos (show nI n ≤ (1980 : Int32) from (nI_leq (b := 1980) (by omega) (by decide)).mpr hn)]
    rw [a5.1]
  · have c1 := b1 i hi1 hi2 j
    have c2 := b2 i hi1 hi2 j
    have c3 := b3 i hi1 hi2 j
    have c4 := b4 i hi1 hi2 j
    have c5 := b5 i hi1 hi2 j
    exact ⟨(((c5.1.trans c4.1).trans c3.1).trans c2.1).trans c1.1, (((c5.2.trans c4.2).trans c3.2).trans c2.2).trans c1.2⟩
