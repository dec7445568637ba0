/-! Division and rest of small numbers; days by hand -/
theorem nI_toI {n : Nat} (h : n < 2 ^ 31) : (nI n).toInt = (n : Int) := by
  show (Int32.ofNat n).toInt = (n : Int)
  rw [Int32.toInt_ofNat_of_lt h]
theorem div_nI {n k : Nat} (hn : n < 2 ^ 31) (hk : k < 2 ^ 31) (h0 : 0 < k) : nI n / nI k = nI (n / k) := by
  apply Int32.toInt_inj.mp
  rw [Int32.toInt_div, nI_toI hn, nI_toI hk, nI_toI (Nat.lt_of_le_of_lt (Nat.div_le_self n k) hn), ← Int.ofNat_tdiv]
  have h9 : n / k < 2 ^ 31 := Nat.lt_of_le_of_lt (Nat.div_le_self n k) hn
  generalize n / k = z at h9
  rw [Int.bmod_eq_of_le (by omega) (by omega)]
theorem rem_nI {n k : Nat} (hn : n < 2 ^ 31) (hk : k < 2 ^ 31) (h0 : 0 < k) : nI n - nI n / nI k * nI k = nI (n % k) := by
  rw [div_nI hn hk h0]
  have h1 : nI (n / k) * nI k = nI (n / k * k) := (Int32.ofNat_mul _ _).symm
  have h2 : nI n = nI (n / k * k) + nI (n % k) := by
    rw [nI_add]
    congr 1
    have := Nat.div_add_mod n k
    rw [Nat.mul_comm] at this
    omega
  rw [h1, h2]
  rw [Int32.add_comm, Int32.add_sub_cancel]
/-- an order's test, by hand -/
def dueB (b : Bok) (m dy j : Nat) : Bool :=
  if bo b j 2 = 0 then true else
  if bo b j 2 = 1 then decide (dy % 3 = bo b j 3 % 3) else
  if bo b j 2 = 2 then decide (0 < cN (Pm b m) (bF b) (2 + bo b j 3 % (2 * bF b))) else
  if bo b j 2 = 3 then !m.testBit (bo b j 4) || decide (fb_ct m.testBit (bS b) < bo b j 3) else
  if bo b j 2 = 4 then RB b m (bo b j 4 % (2 * bF b)) (bo b j 3 % (2 * bF b)) && decide (bo b j 5 < pN (bF b) (RB b m)) else
  decide (cN (Pm b m) (bF b) 0 ≤ 4 * bo b j 3)
def setM (m t : Nat) (u : Bool) : Nat := if m.testBit t = u then m else m ^^^ 2 ^ t
theorem setM_bit (m t k : Nat) (u : Bool) : (setM m t u).testBit k = if k = t then u else m.testBit k := by
  unfold setM
  by_cases e : m.testBit t = u
  · rw [if_pos e]
    by_cases hk : k = t
    · rw [if_pos hk, hk]; exact e
    · rw [if_neg hk]
  · rw [if_neg e, Nat.testBit_xor, Nat.testBit_two_pow]
    by_cases hk : k = t
    · rw [if_pos hk, hk, decide_eq_true rfl]
      cases h : m.testBit t <;> cases u <;> first | rfl | exact absurd h e
    · rw [if_neg hk, decide_eq_false (fun z => hk z.symm), Bool.xor_false]
theorem setM_lt {m t S : Nat} (hm : m < 2 ^ S) (ht : t < S) (u : Bool) : setM m t u < 2 ^ S := by
  unfold setM
  split
  · exact hm
  · exact Nat.xor_lt_two_pow hm (Nat.pow_lt_pow_right (by decide) ht)
def ordS (b : Bok) (dy j : Nat) (s : Nat × Nat) : Nat × Nat := if dueB b s.1 dy j then (setM s.1 (bo b j 1) (decide (bo b j 0 = 2)), s.2 + (if s.1.testBit (bo b j 1) = decide (bo b j 0 = 2) then 0 else 1)) else s
/-- the orders of a day: (which stand, how many orders changed something) -/
def dayS (b : Bok) (dy : Nat) : Nat → Nat × Nat → Nat × Nat
  | 0, s => s
  | j + 1, s => ordS b dy j (dayS b dy j s)
