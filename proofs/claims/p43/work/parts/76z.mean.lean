/-! The mean of the riders: the same two numbers, and no wrong number -/
theorem sm_ct (Q : Nat → Nat → Bool) (F : Nat) : ∀ n, fb_sm (fun f => fb_ct (Q f) n) F = fb_sm (fun p => fb_ct (fun f => Q f p) F) n
  | 0 => by
    show fb_sm (fun _ => 0) F = 0
    rw [fb_sm_const]; rfl
  | n + 1 => by
    rw [fb_sm_succ, ← sm_ct Q F n]
    show fb_sm (fun f => fb_ct (Q f) n + (if Q f n then 1 else 0)) F = _
    rw [fb_sm_add]
    congr 1
    have : ∀ k, fb_sm (fun f => if Q f n = true then 1 else 0) k = fb_ct (fun f => Q f n) k := by
      intro k
      induction k with
      | zero => rfl
      | succ k ih => rw [fb_sm_succ, fb_ct_succ, ih]
    exact this F
theorem ride_sum {P : Nat → Bool} {F : Nat} (hF : F ≤ 10) : fb_sm (fun f => fb_ct (fun p => P p && holdsP p (2 * f)) (2 ^ F)) F = fb_sm (rideN P) (2 ^ F) := by
  rw [sm_ct (fun f p => P p && holdsP p (2 * f)) F]
  refine fb_sm_cong (fun p hp => ?_)
  unfold rideN
  cases hP : P p with
  | false =>
    rw [if_neg (by decide)]
    exact fb_ct_zero.mpr (fun f _ => Bool.false_and _)
  | true =>
    rw [if_pos rfl, show (10 : Nat) = F + (10 - F) by omega, fb_ct_split]
    have e : fb_ct (fun k => p.testBit (F + k)) (10 - F) = 0 := fb_ct_zero.mpr (fun k _ => Nat.testBit_lt_two_pow (Nat.lt_of_lt_of_le hp (Nat.pow_le_pow_right (by decide) (by omega))))
    rw [e, Nat.add_zero]
    exact fb_ct_cong (fun f _ => by rw [Bool.true_and, holds_ride])
theorem mean_n {a b : Int32} (hb : b ≠ 0) : vf_n64 (FP.ddiv (FP.i2d a) (FP.i2d b)) := by
  have h1 : FP.Core.dIsNaN (FP.Core.i2d a) = false := by
    cases h : FP.Core.dIsNaN (FP.Core.i2d a) with
    | false => rfl
    | true => exact absurd ((FP.Core.dIsNaN_iff _).mp h) (FP.Core.i2d_fin a).ne_nan
  have h2 := FP.Core.ddiv_out h1 (FP.Core.i2d_fin b) (fun hz => FP.Core.i2d_ne_zero hb ((FP.Core.zero_bits2 _).mp hz))
  have h3 : ¬ 9218868437227405312 < (FP.Core.ddiv (FP.Core.i2d a) (FP.Core.i2d b)).toNat % 2 ^ 63 := fun h => by
    rw [(FP.Core.isNaN_bits _).mpr h] at h2; cases h2
  show (FP.Core.ddiv (FP.Core.i2d a) (FP.Core.i2d b)) &&& 9223372036854775807 ≤ 9218868437227405312
  rw [UInt64.le_iff_toNat_le, UInt64.toNat_and]
  show (FP.Core.ddiv (FP.Core.i2d a) (FP.Core.i2d b)).toNat &&& (2 ^ 63 - 1) ≤ 9218868437227405312
  rw [Nat.and_two_pow_sub_one_eq_mod]
  omega
