/-! The first state: nothing read, nothing looked up -/
def fx0 : XS := i_X8_init (clr x00 0)
def fz0 : XS := tauX (i_X10_init (pul 48 (clr (i_X8_init (clr x00 0)) 48)))
theorem fx_v : fx0.1 21 0 = 0 ∧ fx0.1 21 1 = 0 ∧ fx0.1 21 7 = 0 ∧ fx0.1 37 5 = -1 ∧ fx0.1 40 4 = 1 ∧ fx0.1 40 6 = -1 ∧ fx0.1 46 0 = 0 ∧ fx0.1 46 1 = 0 ∧ fx0.1 46 2 = 0 ∧ fx0.1 1 1 = 0 ∧ fx0.1 0 10 = -1 := by decide +kernel
theorem fz_v : fz0.1 11 0 = 0 ∧ fz0.1 11 1 = 0 ∧ fz0.1 11 5 = 0 ∧ fz0.1 0 2 = 0 ∧ fz0.1 0 3 = -1 ∧ fz0.1 0 13 = 0 ∧ fz0.1 0 14 = 0 ∧ fz0.1 0 15 = 0 ∧ fz0.1 0 17 = -1 ∧ fz0.1 0 22 = -1 := by decide +kernel
theorem first_ok : IV RR0 (i_X8_init (clr x00 0)) (tauX (i_X10_init (pul 48 (clr (i_X8_init (clr x00 0)) 48)))) := by
  show IV RR0 fx0 fz0
  obtain ⟨a1, a2, a3, a4, a5, a6, a7, a8, a9, a10, a11⟩ := fx_v
  obtain ⟨b1, b2, b3, b4, b5, b6, b7, b8, b9, b10⟩ := fz_v
  have hk : KeyR fx0 := fun _ => rfl
  generalize fx0 = x at a1 a2 a3 a4 a5 a6 a7 a8 a9 a10 a11 hk
  generalize fz0 = z at b1 b2 b3 b4 b5 b6 b7 b8 b9 b10
  refine ⟨0, 0, fun _ => 0, fun _ => 0, 0, ⟨by decide, by decide, a1, a2, fun k h => absurd h (Nat.not_lt_zero k), fun k h => absurd h (Nat.not_lt_zero k)⟩, ⟨by decide, by decide, b1, b2, fun k h => absurd h (Nat.not_lt_zero k), fun k h => absurd h (Nat.not_lt_zero k)⟩, ⟨a5, fun k h => absurd h (Nat.not_lt_zero k)⟩, fun k h => absurd h (Nat.not_lt_zero k), by decide, a8, b8, a7.trans b6.symm, a9.trans b7.symm, Or.inl a4, Or.inl a6, Or.inl b10, Or.inl b9, ⟨0, by decide, a10, b4, fun k h => absurd h (Nat.not_lt_zero k)⟩, a11.trans b5.symm, fun F S _ _ _ _ => ⟨0, by decide, a3, b3, fun j h => absurd h (Nat.not_lt_zero j)⟩, a3.trans b3.symm, hk⟩
/-- all but teaching -/
theorem spec_of3 (o4 : AgN (IV RR0) (fun x => some ((readF (setI (scanF x) 1 1 0)).1 34 5, teachF x)) f_X10_teach) : Spec (IV RR0) :=
  spec_of2 RR0_st RR0_q (fun _ _ h => h.2.1) (fun _ _ h => by obtain ⟨⟨n, n1, n2, n3, -⟩, -⟩ := h; rw [n2, n3]) (fun _ _ h => h.2.2.2.1) first_ok ag_feed ag_trim o4
