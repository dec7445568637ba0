/-! The reference's look and the class's words: the same peaces -/
theorem BkZ_of {z y : XS} {F S : Nat} {l r : Nat → Nat} (h : ∀ q k, q = 11 ∨ q = 12 ∨ q = 13 ∨ q = 14 → y.1 q k = z.1 q k) (hB : BkZ z F S l r) : BkZ y F S l r := by
  obtain ⟨a, b, c, d, e, f⟩ := hB
  refine ⟨a, b, by rw [h _ _ (Or.inl rfl)]; exact c, by rw [h _ _ (Or.inl rfl)]; exact d, e, fun k hk => ?_⟩
  rw [one_eq (fun i => h 12 i (by simp)) (fun i => h 13 i (by simp)), other_eq (fun i => h 12 i (by simp)) (fun i => h 14 i (by simp))]
  exact f k hk
theorem best_step {P : Nat → Bool} {n t : Nat} (hn : n < 1024) (h : Best P n t) : (P n = false → Best P (n + 1) t) ∧ (P n = true → (∀ p, p < n → P p = false) → Best P (n + 1) n) ∧ (P n = true → (¬ ∀ p, p < n → P p = false) → (aheadB (nI n) (nI t) = true → Best P (n + 1) n) ∧ (aheadB (nI n) (nI t) = false → Best P (n + 1) t)) := by
  refine ⟨fun hp => ?_, fun hp ha => ?_, fun hp ha => ?_⟩
  · rcases h with ⟨h1, h2⟩ | ⟨h1, h2, h3⟩
    · refine Or.inl ⟨fun p hlt => ?_, h2⟩
      by_cases e : p = n
      · rw [e]; exact hp
      · exact h1 p (by omega)
    · refine Or.inr ⟨by omega, h2, fun p hlt hpp => ?_⟩
      by_cases e : p = n
      · rw [e, hp] at hpp; cases hpp
      · exact h3 p (by omega) hpp
  · refine Or.inr ⟨by omega, hp, fun p hlt hpp => ?_⟩
    by_cases e : p = n
    · exact Or.inl e
    · rw [ha p (by omega)] at hpp; cases hpp
  · rcases h with ⟨h1, h2⟩ | ⟨h1, h2, h3⟩
    · exact absurd h1 ha
    · obtain ⟨q1, q2⟩ := ahead_eq (a := n) (b := t) hn (by omega)
      refine ⟨fun ht => Or.inr ⟨by omega, hp, fun p hlt hpp => ?_⟩, fun hf => Or.inr ⟨by omega, h2, fun p hlt hpp => ?_⟩⟩
      · have hnt := q1.mp ht
        by_cases e : p = n
        · exact Or.inl e
        · rcases h3 p (by omega) hpp with e2 | e2
          · rw [e2]; exact Or.inr hnt
          · exact Or.inr (ahead_trans hnt e2)
      · by_cases e : p = n
        · rw [e]
          rcases q2 hf with e2 | e2
          · omega
          · exact Or.inr e2
        · exact h3 p (by omega) hpp
set_option maxRecDepth 100000 in
theorem look_ok {z : XS} {F S : Nat} {l r : Nat → Nat} {s : Int32} (hB : BkZ z F S l r) (hz : z.1 0 17 = -1 ∨ LookC z F S l r (z.1 0 17)) (hs : s ≠ -1) : LookC (mlook s z) F S l r s ∧ (mlook s z).1 0 17 = s := by
  by_cases hc : z.1 0 17 = s
  · unfold mlook
    rw [if_pos hc]
    rcases hz with h | h
    · exact absurd (hc.symm.trans h) hs
    · rw [hc] at h; exact ⟨h, hc⟩
  · unfold mlook
    rw [if_neg hc]
    dsimp only
    obtain ⟨hp1, hp2, -⟩ := pow10 F (by have := hB.1; omega)
    generalize hx1 : setI (setI (setI (setI z 0 17 s) 0 18 0) 0 19 0) 0 20 0 = x1
    have g17 : x1.1 0 17 = s := by rw [← hx1, rdI_nk (by decide), rdI_nk (by decide), rdI_nk (by decide)]; exact rdI_eq
    have g18 : x1.1 0 18 = 0 := by rw [← hx1, rdI_nk (by decide), rdI_nk (by decide)]; exact rdI_eq
    have g19 : x1.1 0 19 = 0 := by rw [← hx1, rdI_nk (by decide)]; exact rdI_eq
    have g20 : x1.1 0 20 = 0 := by rw [← hx1]; exact rdI_eq
    have gq : ∀ q k, q ≠ 0 → x1.1 q k = z.1 q k := fun q k h => by rw [← hx1, rdI_ne h, rdI_ne h, rdI_ne h, rdI_ne h]
    have h2 : (∀ c, c < 20 → (itP (fun j y => setI y 8 j 0) 20 x1).1 8 c = 0) ∧ ∀ q k, q ≠ 8 → (itP (fun j y => setI y 8 j 0) 20 x1).1 q k = x1.1 q k := by
      refine itP_rel (P := fun n (y : XS) => (∀ c, c < n → y.1 8 c = 0) ∧ ∀ q k, q ≠ 8 → y.1 q k = x1.1 q k) ⟨fun c h => absurd h (Nat.not_lt_zero c), fun _ _ _ => rfl⟩ (fun n hn y hy => ⟨fun c hcn => ?_, fun q k h => (rdI_ne h).trans (hy.2 q k h)⟩)
      by_cases e : c = n
      · rw [e]; exact rdI_eq
      · rw [rdI_nk e]; exact hy.1 c (by omega)
    generalize itP (fun j y => setI y 8 j 0) 20 x1 = x2 at h2
    obtain ⟨r2, q2⟩ := h2
    have hF2 : ((1 : Int32) <<< (x2.1 11 0 &&& 31)).toNatClampNeg = 2 ^ F := by rw [q2 _ _ (by decide), gq _ _ (by decide), hB.2.2.1, hp1]
    rw [hF2]
    have hF := hB.1
    have h7 := itP_rel (f := mlkF s) (n := 2 ^ F) (y := x2) (P := fun j (y : XS) => (y.1 0 18 = nI (fb_ct (PA l r s S) j) ∧ y.1 0 19 = nI (fb_sm (rideN (PA l r s S)) j) ∧ (∃ t, y.1 0 20 = nI t ∧ Best (PA l r s S) j t) ∧ ∀ c, c < 2 * F → y.1 8 c = nI (fb_ct (fun p => PA l r s S p && holdsP p c) j)) ∧ (∀ q k, q ≠ 0 → q ≠ 8 → y.1 q k = z.1 q k) ∧ y.1 0 17 = s)
      ⟨⟨by rw [q2 _ _ (by decide), g18]; rfl, by rw [q2 _ _ (by decide), g19]; rfl, ⟨0, by rw [q2 _ _ (by decide), g20]; rfl, Or.inl ⟨fun p h => absurd h (Nat.not_lt_zero p), rfl⟩⟩, fun c hc => by rw [r2 c (by omega)]; rfl⟩, fun q k h0 h8 => by rw [q2 _ _ h8, gq _ _ h0], by rw [q2 _ _ (by decide), g17]⟩
      (fun j hj y hy => by
        obtain ⟨⟨y18, y19, ⟨t, y20, yb⟩, y8⟩, yq, y17⟩ := hy
        have hBy : BkZ y F S l r := BkZ_of (fun q k h => yq q k (by omega) (by omega)) hB
        have hj' : j < 1024 := by omega
        obtain ⟨b1, b2, b3⟩ := best_step (P := PA l r s S) hj' yb
        unfold mlkF
        rw [peace_eq hBy hj']
        cases hp : PA l r s S j with
        | false =>
          rw [if_neg (by decide)]
          refine ⟨⟨by rw [y18, fb_ct_succ, hp]; rfl, ?_, ⟨t, y20, b1 hp⟩, fun c hc => ?_⟩, yq, y17⟩
          · rw [y19, fb_sm_succ]
            show nI _ = nI (_ + (if PA l r s S j then _ else 0))
            rw [hp]; rfl
          · rw [y8 c hc, fb_ct_succ, hp, Bool.false_and]; rfl
        | true =>
          rw [if_pos rfl]
          dsimp only
          have ht : ∃ t', (mltF (nI j) y).1 0 20 = nI t' ∧ Best (PA l r s S) (j + 1) t' := by
            unfold mltF
            rw [y18]
            by_cases hz0 : nI (fb_ct (PA l r s S) j) = 0
            · rw [if_pos hz0]
              exact ⟨j, rdI_eq, b2 hp ((ct_nz (by omega)).mp hz0)⟩
            · rw [if_neg hz0, y20]
              have hnn : ¬ ∀ p, p < j → PA l r s S p = false := fun h => hz0 ((ct_nz (by omega)).mpr h)
              cases ha : aheadB (nI j) (nI t) with
              | true => rw [if_pos rfl]; exact ⟨j, rdI_eq, (b3 hp hnn).1 ha⟩
              | false => rw [if_neg (by decide)]; exact ⟨t, y20, (b3 hp hnn).2 ha⟩
          have mt : ∀ q k, q ≠ 0 ∨ k ≠ 20 → (mltF (nI j) y).1 q k = y.1 q k := fun q k h => by
            have e : ∀ v, (setI y 0 20 v).1 q k = y.1 q k := fun v => by
              rcases h with h | h
              · exact rdI_ne h
              · exact rdI_nk h
            unfold mltF
            split
            · exact e _
            · split
              · exact e _
              · rfl
          generalize mltF (nI j) y = y1 at ht mt
          generalize hy3 : setI (setI y1 0 18 (y1.1 0 18 + 1)) 0 19 ((setI y1 0 18 (y1.1 0 18 + 1)).1 0 19 + bcI (nI j)) = y3
          have e18 : y3.1 0 18 = nI (fb_ct (PA l r s S) (j + 1)) := by
            rw [← hy3, rdI_nk (by decide), rdI_eq, mt _ _ (Or.inr (by decide)), y18, fb_ct_succ, hp]; exact nI_addN _ 1
          have e19 : y3.1 0 19 = nI (fb_sm (rideN (PA l r s S)) (j + 1)) := by
            rw [← hy3, rdI_eq, rdI_nk (by decide), mt _ _ (Or.inr (by decide)), y19, bc_small hj', nI_addN, fb_sm_succ]
            show nI _ = nI (_ + (if PA l r s S j then _ else 0))
            rw [hp]; rfl
          have eo : ∀ q k, q ≠ 0 ∨ (k ≠ 18 ∧ k ≠ 19) → y3.1 q k = y1.1 q k := fun q k h => by
            rw [← hy3]
            rcases h with h | h
            · rw [rdI_ne h, rdI_ne h]
            · rw [rdI_nk h.2, rdI_nk h.1]
          have eF : (2 * y3.1 11 0).toNatClampNeg = 2 * F := by
            rw [eo _ _ (Or.inl (by decide)), mt _ _ (Or.inl (by decide)), hBy.2.2.1, two_nI, nI_clamp (by omega)]
          rw [eF]
          have h8 := itP_rel (f := mlcF (nI j)) (n := 2 * F) (y := y3) (P := fun n (w : XS) => (∀ c, c < n → w.1 8 c = nI (fb_ct (fun p => PA l r s S p && holdsP p c) (j + 1))) ∧ (∀ c, n ≤ c → w.1 8 c = y3.1 8 c) ∧ ∀ q k, q ≠ 8 → w.1 q k = y3.1 q k) ⟨fun c h => absurd h (Nat.not_lt_zero c), fun _ _ => rfl, fun _ _ _ => rfl⟩
            (fun n hn w hw => by
              unfold mlcF
              refine ⟨fun c hc => ?_, fun c hc => ?_, fun q k h => (rdI_ne h).trans (hw.2.2 q k h)⟩
              · by_cases e : c = n
                · subst e
                  rw [rdI_eq, hw.2.1 c (Nat.le_refl c), eo _ _ (Or.inl (by decide)), mt _ _ (Or.inl (by decide)), y8 c hn, mholds_eq hj' (by omega), fb_ct_succ, hp, Bool.true_and]
                  cases holdsP j c
                  · exact Int32.add_zero _
                  · exact nI_addN _ 1
                · rw [rdI_nk e]; exact hw.1 c (by omega)
              · rw [rdI_nk (by omega)]; exact hw.2.1 c (by omega))
          generalize itP (mlcF (nI j)) (2 * F) y3 = y4 at h8
          obtain ⟨w1, -, w3⟩ := h8
          obtain ⟨t', ht1, ht2⟩ := ht
          exact ⟨⟨by rw [w3 _ _ (by decide), e18], by rw [w3 _ _ (by decide), e19], ⟨t', by rw [w3 _ _ (by decide), eo _ _ (Or.inr (by decide)), ht1], ht2⟩, w1⟩,
            fun q k h0 h8 => by rw [w3 _ _ h8, eo _ _ (Or.inl h0), mt _ _ (Or.inl h0)]; exact yq q k h0 h8, by rw [w3 _ _ (by decide), eo _ _ (Or.inr (by decide)), mt _ _ (Or.inr (by decide)), y17]⟩)
    exact ⟨h7.1, h7.2.2⟩
/-! the class's words -/
def bitL (v : Int64) (j : Nat) : Bool := v.toBitVec.getLsbD j
theorem bitL_and (v w : Int64) (j : Nat) : bitL (v &&& w) j = (bitL v j && bitL w j) := by
  unfold bitL; rw [Int64.toBitVec_and, BitVec.getLsbD_and]
theorem bitL_or (v w : Int64) (j : Nat) : bitL (v ||| w) j = (bitL v j || bitL w j) := by
  unfold bitL; rw [Int64.toBitVec_or, BitVec.getLsbD_or]
theorem bcL_bit (v : Int64) : bcL v = nI (fb_ct (bitL v) 64) := bcL_ct v
theorem bitL_zero (j : Nat) : bitL 0 j = false := by unfold bitL; show (0#64).getLsbD j = false; simp
theorem zeroL {v : Int64} : v = 0 ↔ ∀ j, j < 64 → bitL v j = false := by
  refine ⟨fun h j _ => by rw [h]; exact bitL_zero j, fun h => Int64.toBitVec.inj (BitVec.eq_of_getLsbD_eq fun j hj => ?_)⟩
  exact (h j hj).trans (bitL_zero j).symm
def usedN (F : Nat) : Nat := if F ≤ 6 then 1 else 2 ^ (F - 6)
theorem used_c : ∀ F, F < 11 → usedN F ≤ 16 ∧ 1 ≤ usedN F ∧ 2 ^ F ≤ 64 * usedN F ∧ ((1 : Int32) <<< (maxI (nI F - 6) 0 &&& 31)) = nI (usedN F) := by decide +kernel
theorem holds_bit : ∀ c, c < 20 → ∀ w, w < 16 → ∀ b, b < 64 → bitL (holdsL (nI c) (nI w)) b = holdsP (64 * w + b) c := by decide +kernel
def allF (F w : Nat) : Int64 := if nI F < 6 then (if nI w = 0 then shlL 1 ((1 : Int32) <<< (nI F &&& 31)) - 1 else 0) else -1
theorem all_bit : ∀ F, F < 11 → ∀ w, w < usedN F → ∀ b, b < 64 → bitL (allF F w) b = decide (64 * w + b < 2 ^ F) := by decide +kernel
