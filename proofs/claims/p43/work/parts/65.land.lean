/-! The reference's look and the class's words: the same peaces -/
/-! the class's words -/
def bitL (v : Int64) (j : Nat) : Bool := v.toBitVec.getLsbD j
theorem bitL_and (v w : Int64) (j : Nat) : bitL (v &&& w) j = (bitL v j && bitL w j) := by
  unfold bitL; rw [Int64.toBitVec_and, BitVec.getLsbD_and]
theorem bitL_or (v w : Int64) (j : Nat) : bitL (v ||| w) j = (bitL v j || bitL w j) := by
  unfold bitL; rw [Int64.toBitVec_or, BitVec.getLsbD_or]
theorem bcL_bit (v : Int64) : bcL v = nI (fb_ct (bitL v) 64) := bcL_ct v
theorem bitL_zero (j : Nat) : bitL 0 j = false := by unfold bitL; show (0#64).getLsbD j = false; simp
theorem zeroL {v : Int64} : v = 0 ↔ ∀ j, j < 64 → bitL v j = false := by
  refine ⟨fun h j _ => by rw [h]; exact bitL_zero j, fun h => Int64.toBitVec.inj (BitVec.eq_of_getLsbD_eq fun j hj => ?_)⟩
  exact (h j hj).trans (bitL_zero j).symm
def usedN (F : Nat) : Nat := if F ≤ 6 then 1 else 2 ^ (F - 6)
theorem used_c : ∀ F, F < 11 → usedN F ≤ 16 ∧ 1 ≤ usedN F ∧ 2 ^ F ≤ 64 * usedN F ∧ ((1 : Int32) <<< (maxI (nI F - 6) 0 &&& 31)) = nI (usedN F) := by decide +kernel
theorem holds_bit : ∀ c, c < 20 → ∀ w, w < 16 → ∀ b, b < 64 → bitL (holdsL (nI c) (nI w)) b = holdsP (64 * w + b) c := by decide +kernel
def allF (F w : Nat) : Int64 := if nI F < 6 then (if nI w = 0 then shlL 1 ((1 : Int32) <<< (nI F &&& 31)) - 1 else 0) else -1
theorem all_bit : ∀ F, F < 11 → ∀ w, w < usedN F → ∀ b, b < 64 → bitL (allF F w) b = decide (64 * w + b < 2 ^ F) := by decide +kernel
