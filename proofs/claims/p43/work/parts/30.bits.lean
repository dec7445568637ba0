
/-! Bits of an int by their numbers -/
def bit (v : Int32) (j : Nat) : Bool := v.toBitVec.getLsbD j
theorem nI_and31 {j : Nat} (h : j < 32) : (nI j &&& 31) = nI j := by
  have : ∀ k : Fin 32, (nI k.val &&& 31) = nI k.val := by decide +kernel
  exact this ⟨j, h⟩
theorem sh_amt {j : Nat} (h : j < 32) : ((nI j &&& 31).toBitVec.smod 32).toNat = j := by
  have : ∀ k : Fin 32, ((nI k.val &&& 31).toBitVec.smod 32).toNat = k.val := by decide +kernel
  exact this ⟨j, h⟩
theorem and1_eq (v : Int32) : v &&& 1 = if v.toBitVec.getLsbD 0 then 1 else 0 := by
  apply Int32.toBitVec_inj.mp
  rw [Int32.toBitVec_and]
  apply BitVec.eq_of_getLsbD_eq
  intro i hi
  rw [BitVec.getLsbD_and]
  cases h : v.toBitVec.getLsbD 0 <;> cases i with
  | zero => rw [h]; rfl
  | succ i =>
    have h1 : (1 : Int32).toBitVec.getLsbD (i + 1) = false := by
      show (1#32).getLsbD (i + 1) = false
      simp
    simp [h1]
theorem shr_bit0 {v : Int32} {j : Nat} (h : j < 32) : (v >>> (nI j &&& 31)).toBitVec.getLsbD 0 = v.toBitVec.getLsbD j := by
  rw [Int32.toBitVec_shiftRight]
  show (v.toBitVec.sshiftRight ((nI j &&& 31).toBitVec.smod 32).toNat).getLsbD 0 = _
  rw [sh_amt h, BitVec.getLsbD_sshiftRight]
  simp [h]
theorem hasB_bit {v : Int32} {j : Nat} (h : j < 32) : hasB v (nI j) = bit v j := by
  unfold hasB bit
  rw [and1_eq, shr_bit0 h]
  cases v.toBitVec.getLsbD j <;> decide
theorem bit_or (v w : Int32) (j : Nat) : bit (v ||| w) j = (bit v j || bit w j) := by
  unfold bit; rw [Int32.toBitVec_or, BitVec.getLsbD_or]
theorem bit_and (v w : Int32) (j : Nat) : bit (v &&& w) j = (bit v j && bit w j) := by
  unfold bit; rw [Int32.toBitVec_and, BitVec.getLsbD_and]
theorem bit_shl1 {i j : Nat} (hi : i < 32) (hj : j < 32) : bit ((1 : Int32) <<< (nI i &&& 31)) j = decide (j = i) := by
  have : ∀ i j : Fin 32, bit ((1 : Int32) <<< (nI i.val &&& 31)) j.val = decide (j.val = i.val) := by decide +kernel
  exact this ⟨i, hi⟩ ⟨j, hj⟩
theorem bit_ext {v w : Int32} (h : ∀ j, j < 32 → bit v j = bit w j) : v = w := by
  apply Int32.toBitVec_inj.mp
  exact BitVec.eq_of_getLsbD_eq h
theorem bit_with {v : Int32} {i j : Nat} (hi : i < 32) (hj : j < 32) : bit (withI v (nI i)) j = (bit v j || decide (j = i)) := by
  unfold withI; rw [bit_or, bit_shl1 hi hj]
theorem bit_without {v : Int32} {i j : Nat} (hi : i < 32) (hj : j < 32) : bit (withoutI v (nI i)) j = (bit v j && !decide (j = i)) := by
  unfold withoutI
  rw [bit_and]
  congr 1
  have : ∀ i j : Fin 32, bit (((1 : Int32) <<< (nI i.val &&& 31)) ^^^ (-1)) j.val = !decide (j.val = i.val) := by decide +kernel
  exact this ⟨i, hi⟩ ⟨j, hj⟩
theorem bit_zero (j : Nat) : bit 0 j = false := by
  unfold bit; show (0#32).getLsbD j = false; simp

/-- the same world under another name -/
theorem xworld {k : Kx} {pc cells slots : Nat} {lay : List Kd} {a : Nat → Nat} {x x' : XS} {L : List (Nat × Value)} {stk : List Value} (h : x' = x) (kk : Wx k cells slots lay a x' pc L stk) : Wx k cells slots lay a x pc L stk := h ▸ kk
