/-! A statement's line -/
def btG (bt : Option Int32) (y : XS) : Option (Bool × XS) := match bt with
  | none => some (true, y)
  | some b => ob (f_X10_eat b y) (fun u120 => (if (b2i u120.1) = 0 then some (false, u120.2) else ob (f_X10_isClaimTold 4 u120.2) (fun u128 => (if (b2i u128.1) = 0 then some (false, u128.2) else some (true, u128.2)))))
def clG (bt : Option Int32) (y : XS) : Option (Bool × XS) := ob (f_X10_isClaimTold 3 y) (fun u84 => (if (b2i u84.1) = 0 then some (false, u84.2) else btG bt u84.2))
def ahG (ah bt : Option Int32) (y : XS) : Option (Bool × XS) := match ah with
  | none => clG bt y
  | some a => ob (f_X10_eat a y) (fun u63 => (if (b2i u63.1) = 0 then some (false, u63.2) else clG bt u63.2))
def stG (ah bt : Option Int32) (y : XS) : Option (Bool × XS) := ob (f_X10_eatAs 40 2 y) (fun u48 => (if (b2i u48.1) = 0 then some (false, u48.2) else ahG ah bt u48.2))
theorem stG_eq {z : XS} {p : Nat} (hz : z.1 0 9 = nI p) (hp : p < 401) {its : Int32} (h : z.1 2 p = its) :
    (its = 1 → f_X10_isStatementLine z = stG (some 2) (some 3) (setI z 0 9 (nI (p + 1)))) ∧ (its = 4 → f_X10_isStatementLine z = stG (some 5) (some 6) (setI z 0 9 (nI (p + 1)))) ∧
    (its = 7 → f_X10_isStatementLine z = stG none (some 8) (setI z 0 9 (nI (p + 1)))) ∧ (its = 9 → f_X10_isStatementLine z = stG none none (setI z 0 9 (nI (p + 1)))) ∧ (its ≠ 1 → its ≠ 4 → its ≠ 7 → its ≠ 9 → f_X10_isStatementLine z = some (false, z)) := by
  have e : z.1 2 (z.1 0 9).toNatClampNeg = its := by rw [hz, nI_clamp (by omega)]; exact h
  have e2 : setI z 0 9 (z.1 0 9 + 1) = setI z 0 9 (nI (p + 1)) := by rw [hz]; exact congrArg (setI z 0 9) (nI_addN p 1)
  have hin : inB (z.1 0 9) 401 = true := by rw [hz]; exact inB_nI hp (by decide)
  unfold f_X10_isStatementLine
  rw [hin, og_tr]
  simp only [e, e2]
  refine ⟨fun h => ?_, fun h => ?_, fun h => ?_, fun h => ?_, fun h1 h2 h3 h4 => ?_⟩
  · subst h
    simp only [show ((1 : Int32) = 4) = False from eq_false (by decide), show ((1 : Int32) = 9) = False from eq_false (by decide), if_true, if_false]
    rfl
  · subst h
    simp only [show ((4 : Int32) = 1) = False from eq_false (by decide), show ((4 : Int32) = 9) = False from eq_false (by decide), if_true, if_false]
    rfl
  · subst h
    simp only [show ((7 : Int32) = 1) = False from eq_false (by decide), show ((7 : Int32) = 4) = False from eq_false (by decide), show ((7 : Int32) = 9) = False from eq_false (by decide), if_true, if_false]
    rfl
  · subst h
    simp only [show ((9 : Int32) = 1) = False from eq_false (by decide), show ((9 : Int32) = 4) = False from eq_false (by decide), show ((9 : Int32) = 7) = False from eq_false (by decide), if_true, if_false]
    rfl
  · rw [if_neg h1, if_neg h2, if_neg h3, if_neg h4]
theorem stF_n {y : XS} {kd f s : Int32} {q k : Nat} (h : ¬ (9 ≤ q ∧ q ≤ 13)) (h2 : ¬ (q = 8 ∧ k = 1)) : (addStF y kd f s).1 q k = y.1 q k := by
  unfold addStF
  split
  · rfl
  · split
    · rfl
    · rw [rdI, if_neg h2, rdI_ne (by omega), rdI_ne (by omega), rdI_ne (by omega), rdI_ne (by omega), rdI_ne (by omega)]
theorem stF_2 {y : XS} {kd f s : Int32} : (addStF y kd f s).2 = y.2 := by
  unfold addStF
  split
  · rfl
  · split <;> rfl
theorem stF_v {y : XS} {kd f s : Int32} {S : Nat} (h : y.1 8 1 = nI S) (hS : S < 20) : (addStF y kd f s).1 8 1 = nI (S + 1) ∧ (addStF y kd f s).1 9 S = kd ∧ (addStF y kd f s).1 10 S = f ∧ (addStF y kd f s).1 11 S = s ∧ (addStF y kd f s).1 12 S = lefI kd f ∧ (addStF y kd f s).1 13 S = rigI kd s ∧ ∀ q k, q ≠ 8 → k ≠ S → (addStF y kd f s).1 q k = y.1 q k := by
  have e : addStF y kd f s = setI (setI (setI (setI (setI (setI y 9 S kd) 10 S f) 11 S s) 12 S (lefI kd f)) 13 S (rigI kd s)) 8 1 (nI (S + 1)) := by
    unfold addStF
    rw [h, if_neg (nI_nn (by omega)), if_neg (fun (q : (20 : Int32) ≤ nI S) => by have := (nI_leq (a := 20) (by omega) (by omega)).mp q; omega), nI_clamp (by omega), show nI S + 1 = nI (S + 1) from nI_addN S 1]
  rw [e]
  refine ⟨rdI_eq, ?_, ?_, ?_, ?_, ?_, fun q k a b => ?_⟩
  · rw [rdI_ne (by decide), rdI_ne (by decide), rdI_ne (by decide), rdI_ne (by decide), rdI_ne (by decide), rdI_eq]
  · rw [rdI_ne (by decide), rdI_ne (by decide), rdI_ne (by decide), rdI_ne (by decide), rdI_eq]
  · rw [rdI_ne (by decide), rdI_ne (by decide), rdI_ne (by decide), rdI_eq]
  · rw [rdI_ne (by decide), rdI_ne (by decide), rdI_eq]
  · rw [rdI_ne (by decide), rdI_eq]
  · rw [rdI_ne a, rdI_nk b, rdI_nk b, rdI_nk b, rdI_nk b, rdI_nk b]
/-- in the middle of a statement -/
def Ms (N : Nat) (x z : XS) (cf : Nat → Int32) (p c e o : Nat) (its : Int32) (y w : XS) (q : Nat) (PP : XS → Prop) (Q3 : Prop) : Prop :=
  Sb N y w cf q c e o 0 ∧ p + 2 ≤ q ∧ (∀ i k, i ≠ 34 → y.1 i k = x.1 i k) ∧ (∀ i, i ≠ 36 → y.2 i = x.2 i) ∧
  (∀ i k, i ≠ 5 → ¬ (i = 0 ∧ k = 9) → w.1 i k = z.1 i k) ∧ (∀ j, j < p → w.1 5 j = z.1 5 j) ∧ w.1 5 p = 0 ∧ w.1 5 (p + 1) = 2 ∧ (∀ j, p + 2 ≤ j → j < q → w.1 5 j = 0 ∨ w.1 5 j = 3 ∨ w.1 5 j = 4) ∧
  (p2 (w.1 5) (z.1 2) (x.2 7) q).1 22 (cn (z.1 5) 2 p) = its ∧
  (∀ i k, i ≠ 6 → ¬ (22 ≤ i ∧ i ≤ 24 ∧ k = cn (z.1 5) 2 p) → (p2 (w.1 5) (z.1 2) (x.2 7) q).1 i k = (p2 (z.1 5) (z.1 2) (x.2 7) p).1 i k) ∧
  PP (p2 (w.1 5) (z.1 2) (x.2 7) q) ∧
  Md y (w.1 5) (x.2 7) q ((∃ F S O, LQ x z cf p c e F S O ∧ S < 20 ∧ y.2 36 S = x.2 7 (p + 1) ∧ ∀ k, k < S → y.2 36 k = x.2 36 k) ∧ Q3)
theorem Ms.wf {N : Nat} {x z : XS} {cf : Nat → Int32} {p c e o : Nat} {its : Int32} {y w : XS} {q : Nat} {PP : XS → Prop} {Q3 : Prop} (h : Ms N x z cf p c e o its y w q PP Q3) : WF x z y w := by
  obtain ⟨-, -, h3, h4, h5, -⟩ := h
  exact ⟨fun i k a _ => h3 i k a, fun i k _ a => by rw [h4 i a], fun i k a _ b _ => h5 i k a (fun g => b ⟨g.1, Or.inl g.2⟩)⟩
theorem ms_adv {N : Nat} {x z : XS} {cf : Nat → Int32} {p c e o : Nat} {its : Int32} {y w : XS} {q : Nat} {PP : XS → Prop} {Q3 : Prop} (h : Ms N x z cf p c e o its y w q PP Q3) (hq : q + 1 < N) : Ms N x z cf p c e o its (adv y) (setI w 0 9 (nI (q + 1))) (q + 1) PP Q3 := by
  obtain ⟨hb, hpq, h3, h4, h5, h6, h7, h8, h9, h10, h11, h12, hm⟩ := h
  have e5 : (setI w 0 9 (nI (q + 1))).1 5 = w.1 5 := rowI (by decide)
  have hy := hb.2.2.1
  have w0 : w.1 5 q = 0 := hb.2.2.2.2.1 q (Nat.le_refl _) hb.2.1
  have ep : p2 (w.1 5) (z.1 2) (x.2 7) (q + 1) = p2 (w.1 5) (z.1 2) (x.2 7) q := by rw [p2_1, eff0 (Or.inl w0)]
  unfold Ms
  rw [e5, ep]
  refine ⟨sb_adv hb hq, by omega, fun i k a => by rw [adv_x hy, rdI_ne a]; exact h3 i k a, h4, fun i k a b => by rw [rdI, if_neg b]; exact h5 i k a b, h6, h7, h8, fun j a b => ?_, h10, h11, h12, Md_adv hm hy w0 id⟩
  rcases Nat.lt_or_ge j q with g | g
  · exact h9 j a g
  · rw [show j = q by omega]; exact Or.inl w0
theorem eff34 {ρ K : Nat → Int32} {V : Nat → Int64} {j : Nat} {w : XS} {r : Int32} (hr : r = 3 ∨ r = 4) (h : ρ j = r) {S : Nat} (hS : cn ρ 2 j = S + 1) {v : Int32} (hv : v = 2 * tl ρ V 1 (V j) j + (if K (j + 1) = 11 then 1 else 0)) :
    (eff ρ K V j w).1 22 S = w.1 22 S ∧ (∀ i k, i ≠ 6 → ¬ (23 ≤ i ∧ i ≤ 24 ∧ k = S) → (eff ρ K V j w).1 i k = w.1 i k) ∧
    (r = 3 → (eff ρ K V j w).1 23 S = v ∧ (w.1 22 S = 9 → (eff ρ K V j w).1 24 S = v)) ∧ (r = 4 → (eff ρ K V j w).1 23 S = w.1 23 S ∧ (eff ρ K V j w).1 24 S = v) := by
  have hS1 : cn ρ 2 j - 1 = S := by omega
  unfold eff
  rw [hS1, ← hv]
  rcases hr with hr | hr <;> subst hr
  · rw [h, if_neg (by decide), if_pos rfl]
    have e22 : (setI (setI w 6 j (tl ρ V 1 (V j) j)) 23 S v).1 22 S = w.1 22 S := by rw [rdI_ne (by decide), rdI_ne (by decide)]
    rw [e22]
    split
    · next h9 =>
      refine ⟨by rw [rdI_ne (by decide)]; exact e22, fun i k a b => ?_, fun _ => ⟨?_, fun _ => rdI_eq⟩, fun g => absurd g (by decide)⟩
      · rw [rdI, if_neg (fun g => b ⟨by omega, by omega, g.2⟩), rdI, if_neg (fun g => b ⟨by omega, by omega, g.2⟩), rdI_ne a]
      · rw [rdI_ne (by decide), rdI_eq]
    · next h9 =>
      refine ⟨e22, fun i k a b => ?_, fun _ => ⟨rdI_eq, fun g => absurd g h9⟩, fun g => absurd g (by decide)⟩
      rw [rdI, if_neg (fun g => b ⟨by omega, by omega, g.2⟩), rdI_ne a]
  · rw [h, if_neg (by decide), if_neg (by decide), if_pos rfl]
    refine ⟨by rw [rdI_ne (by decide), rdI_ne (by decide)], fun i k a b => ?_, fun g => absurd g (by decide), fun _ => ⟨?_, rdI_eq⟩⟩
    · rw [rdI, if_neg (fun g => b ⟨by omega, by omega, g.2⟩), rdI_ne a]
    · rw [rdI_ne (by decide), rdI_ne (by decide)]
theorem Ms.cns {N : Nat} {x z : XS} {cf : Nat → Int32} {p c e o : Nat} {its : Int32} {y w : XS} {q : Nat} {PP : XS → Prop} {Q3 : Prop} (h : Ms N x z cf p c e o its y w q PP Q3) : cn (w.1 5) 2 q = cn (z.1 5) 2 p + 1 ∧ cn (w.1 5) 1 q = cn (z.1 5) 1 p ∧ cn (w.1 5) 5 q = cn (z.1 5) 5 p ∧ cn (w.1 5) 2 (p + 1) = cn (z.1 5) 2 p := by
  obtain ⟨-, hpq, -, -, -, h6, h7, h8, h9, -⟩ := h
  have e2 : cn (w.1 5) 2 (p + 1) = cn (z.1 5) 2 p := by rw [cn_n (by rw [h7]; decide), cn_cong h6]
  refine ⟨?_, ?_, ?_, e2⟩
  · rw [cn_skip hpq (fun j a b => by rcases h9 j a b with g | g | g <;> rw [g] <;> decide), cn_y h8, e2]
  · rw [cn_skip hpq (fun j a b => by rcases h9 j a b with g | g | g <;> rw [g] <;> decide), cn_n (by rw [h8]; decide), cn_n (by rw [h7]; decide), cn_cong h6]
  · rw [cn_skip hpq (fun j a b => by rcases h9 j a b with g | g | g <;> rw [g] <;> decide), cn_n (by rw [h8]; decide), cn_n (by rw [h7]; decide), cn_cong h6]
theorem Ms.ne1 {N : Nat} {x z : XS} {cf : Nat → Int32} {p c e o : Nat} {its : Int32} {y w : XS} {q : Nat} {PP : XS → Prop} {Q3 : Prop} (h : Ms N x z cf p c e o its y w q PP Q3) : ∀ j, p ≤ j → j < q → w.1 5 j ≠ 1 := by
  obtain ⟨-, hpq, -, -, -, h6, h7, h8, h9, -⟩ := h
  intro j a b
  rcases Nat.lt_or_ge j (p + 2) with g | g
  · rcases Nat.lt_or_ge j (p + 1) with g2 | g2
    · rw [show j = p by omega, h7]; decide
    · rw [show j = p + 1 by omega, h8]; decide
  · rcases h9 j g b with g | g | g <;> rw [g] <;> decide
theorem ms_claim {N : Nat} {x z : XS} {cf : Nat → Int32} {p c e o : Nat} {its : Int32} {y w : XS} {q : Nat} {PP PP' : XS → Prop} {Q3 : Prop} (h : Ms N x z cf p c e o its y w q PP Q3) {r : Int32} (hr : r = 3 ∨ r = 4)
    (hPP : ∀ s s' : XS, ∀ v, PP s → s.1 22 (cn (z.1 5) 2 p) = its → (r = 3 → s'.1 23 (cn (z.1 5) 2 p) = v ∧ (its = 9 → s'.1 24 (cn (z.1 5) 2 p) = v)) → (r = 4 → s'.1 23 (cn (z.1 5) 2 p) = s.1 23 (cn (z.1 5) 2 p) ∧ s'.1 24 (cn (z.1 5) 2 p) = v) → PP' s') :
    (∃ u, f_X10_isClaimTold r w = some (false, u) ∧ (claimU y).1 = -1 ∧ Fl N y w (claimU y).2 u) ∨
    (∃ u v, f_X10_isClaimTold r w = some (true, u) ∧ ¬ (claimU y).1 < 0 ∧ (r = 3 → (p2 (u.1 5) (z.1 2) (x.2 7) (q + 2)).1 23 (cn (z.1 5) 2 p) = v) ∧ (r = 4 → (p2 (u.1 5) (z.1 2) (x.2 7) (q + 2)).1 24 (cn (z.1 5) 2 p) = v) ∧
      Ms N x z cf p c e o its (claimU y).2 u (q + 2) PP' (Q3 ∧ ∃ a, a < 2 * cn (z.1 5) 1 p ∧ (claimU y).1 = nI a ∧ v = nI a)) := by
  have hcn := h.cns
  have hne1 := h.ne1
  obtain ⟨hb, hpq, h3, h4, h5, h6, h7, h8, h9, h10, h11, h12, hm⟩ := h
  have hN := hb.N
  have y7 : y.2 7 = x.2 7 := h4 7 (by decide)
  have hm0 : ∀ V, V = x.2 7 → Md y (w.1 5) V q ((∃ F S O, LQ x z cf p c e F S O ∧ S < 20 ∧ y.2 36 S = x.2 7 (p + 1) ∧ ∀ k, k < S → y.2 36 k = x.2 36 k) ∧ Q3) := fun V hV => by rw [hV]; exact hm
  have hm' := hm0 (y.2 7) y7
  have hF : ((∃ F S O, LQ x z cf p c e F S O ∧ S < 20 ∧ y.2 36 S = x.2 7 (p + 1) ∧ ∀ k, k < S → y.2 36 k = x.2 36 k) ∧ Q3) → ∃ F, FamL y (w.1 5) (y.2 7) q F := by
    rintro ⟨⟨F, S, O, hq, -⟩, -⟩
    rw [y7]
    exact ⟨F, FamL_of (by omega) (h3 _ _ (by decide)) (fun k => by rw [h4 35 (by decide)]) h6 hne1 hq.1⟩
  rcases claim_ln hb hr (by rw [hcn.1]; omega) hm' hF with ⟨u, g1, g2, g3⟩ | ⟨u, g1, g2, g3, g4, g5, g6, g7, g8, g9, g10⟩
  · exact Or.inl ⟨u, g1, g2, g3⟩
  · right
    have hσ : ∀ j, j < q → u.1 5 j = w.1 5 j := fun j hj => g7 5 j (by omega) (by omega)
    have kq : w.1 2 (q + 1) = z.1 2 (q + 1) := h5 2 _ (by decide) (by omega)
    have hcq : cn (u.1 5) 2 q = cn (z.1 5) 2 p + 1 := by rw [cn_cong hσ]; exact hcn.1
    have hc1 : cn (u.1 5) 1 q = cn (z.1 5) 1 p := by rw [cn_cong hσ]; exact hcn.2.1
    have pe : p2 (u.1 5) (z.1 2) (x.2 7) (q + 2) = eff (u.1 5) (z.1 2) (x.2 7) q (p2 (w.1 5) (z.1 2) (x.2 7) q) := by
      rw [p2_1, eff0 (Or.inl g9), p2_1, p2_cong hσ]
    obtain ⟨f1, f2, f3, f4⟩ := eff34 (K := z.1 2) (V := x.2 7) (w := p2 (w.1 5) (z.1 2) (x.2 7) q) hr g8 hcq rfl
    rw [h10] at f3
    refine ⟨u, 2 * tl (u.1 5) (x.2 7) 1 (x.2 7 q) q + (if z.1 2 (q + 1) = 11 then 1 else 0), g1, g2, fun hr3 => by rw [pe]; exact (f3 hr3).1, fun hr4 => by rw [pe]; exact (f4 hr4).2, g4, by omega, fun i k a => (g5 i k a).trans (h3 i k a), fun i a => by rw [g6]; exact h4 i a, fun i k a b => (g7 i k (by omega) b).trans (h5 i k a b), fun j hj => (hσ j (by omega)).trans (h6 j hj), (hσ p (by omega)).trans h7, (hσ (p + 1) (by omega)).trans h8, fun j a b => ?_, ?_, fun i k a b => ?_, ?_, ?_⟩
    · rcases Nat.lt_or_ge j q with k | k
      · rw [hσ j k]; exact h9 j a k
      · rcases Nat.lt_or_ge q j with k2 | k2
        · rw [show j = q + 1 by omega]; exact Or.inl g9
        · rw [show j = q by omega, g8]; exact Or.inr hr
    · rw [pe]; exact f1.trans h10
    · rw [pe, f2 i k a (by omega)]; exact h11 i k a b
    · rw [pe]; exact hPP _ _ _ h12 h10 f3 f4
    · rw [y7] at g10
      refine Md_imp g10 (fun ⟨⟨⟨F, S, O, a1, a2, a3, a4⟩, a5⟩, k, b1, b2, b3⟩ => ⟨⟨F, S, O, a1, a2, by rw [g6]; exact a3, by rw [g6]; exact a4⟩, a5, ?_⟩)
      rw [b2, b3, kq]
      rw [hc1] at b1
      by_cases h11' : z.1 2 (q + 1) = 11
      · rw [if_pos h11', nI_2]
        exact ⟨2 * k + 1, by omega, nI_addN _ 1, nI_addN _ 1⟩
      · rw [if_neg h11', nI_2]
        exact ⟨2 * k, by omega, Int32.add_zero _, Int32.add_zero _⟩
/-- the statement is told -/
theorem ms_end {N : Nat} {x z : XS} {cf : Nat → Int32} {p c e o : Nat} {its : Int32} {y w : XS} {q : Nat} {v3 v4 c1 c2 kd : Int32} (hl : LSt N x z cf p c e o) (hkd : KD kd its)
    (h : Ms N x z cf p c e o its y w q (fun s => s.1 23 (cn (z.1 5) 2 p) = v3 ∧ s.1 24 (cn (z.1 5) 2 p) = v4) ((∃ a, a < 2 * cn (z.1 5) 1 p ∧ c1 = nI a ∧ v3 = nI a) ∧ ∃ a, a < 2 * cn (z.1 5) 1 p ∧ c2 = nI a ∧ v4 = nI a)) :
    p < q ∧ LSt N (addStF y kd c1 c2) w cf q c e o ∧ WF x z (addStF y kd c1 c2) w := by
  have hcn := h.cns
  have hne1 := h.ne1
  have hwf := h.wf
  obtain ⟨hb, hpq, h3, h4, h5, h6, h7, h8, h9, h10, h11, ⟨h12, h13⟩, hm⟩ := h
  obtain ⟨-, l2, l3, l4, l5, -⟩ := hl
  have K2 : w.1 2 = z.1 2 := funext fun k => h5 2 k (by decide) (by omega)
  have y7 : (addStF y kd c1 c2).2 7 = x.2 7 := by rw [stF_2]; exact h4 7 (by decide)
  have f34 : ∀ k, (addStF y kd c1 c2).1 34 k = y.1 34 k := fun k => stF_n (by omega) (by omega)
  refine ⟨by omega, ⟨?_, by omega, by omega, by omega, ?_, ?_⟩, ?_⟩
  · obtain ⟨a1, a2, a3, a4, a5, a6, a7, a8, a9, a10, a11⟩ := hb
    refine ⟨TokR_of (fun q k hq => stF_n (by omega) (by omega)) (fun k => by rw [stF_2]) (fun _ _ _ _ => rfl) a1, a2, by rw [f34]; exact a3, a4, a5, by rw [stF_n (by omega) (by omega)]; exact a6, a7, a8, a9, by rw [stF_2]; exact a10, ?_⟩
    rw [show (addStF y kd c1 c2).1 5 = y.1 5 from funext fun k => stF_n (by omega) (by omega)]; exact a11
  · rw [h5 21 6 (by decide) (by omega), hcn.2.2.1]; exact l5
  · rw [y7]
    have hm2 : Md (addStF y kd c1 c2) (w.1 5) (x.2 7) q (((∃ F S O, LQ x z cf p c e F S O ∧ S < 20 ∧ y.2 36 S = x.2 7 (p + 1) ∧ ∀ k, k < S → y.2 36 k = x.2 36 k) ∧ ((∃ a, a < 2 * cn (z.1 5) 1 p ∧ c1 = nI a ∧ v3 = nI a) ∧ ∃ a, a < 2 * cn (z.1 5) 1 p ∧ c2 = nI a ∧ v4 = nI a))) :=
      hm.imp (fun ⟨a, b, g⟩ => ⟨by rw [f34]; exact a, b, g⟩) (fun g => EA_of (Nat.le_refl _) (f34 _) (f34 _) (fun _ _ => rfl) g)
    refine Md_imp hm2 ?_
    rintro ⟨⟨F, S, O, ⟨q1, q2, ⟨q3, q4, q5⟩, q6, q7⟩, s1, s2, s3⟩, ⟨a, a1, a2, a3⟩, ⟨b, b1, b2, b3⟩⟩
    have hF := q1.1
    have hS := q2.1
    rw [hF] at a1 b1
    rw [hS] at h10 h11 h12 h13 hcn
    have hy8 : y.1 8 1 = nI S := (h3 8 1 (by decide)).trans q2.2.2.1
    obtain ⟨t1, t2, t3, t4, t5, t6, t7⟩ := stF_v (kd := kd) (f := c1) (s := c2) hy8 s1
    refine ⟨F, S + 1, O, ?_, ⟨hcn.1, by omega, t1, ?_⟩, ⟨hcn.2.2.1.trans q3, q4, ?_⟩, ?_, ?_⟩
    · rw [y7]
      exact FamL_of (by omega) (by rw [stF_n (by omega) (by omega)]; exact h3 _ _ (by decide)) (fun k => by rw [stF_2, h4 35 (by decide)]) h6 hne1 q1
    · rw [y7, stF_2]
      intro j hj hj2
      rcases Nat.lt_or_ge j p with g | g
      · rw [cn_cong (fun i hi => h6 i (by omega)), s3]
        · exact q2.2.2.2 j g (by rw [← h6 j g]; exact hj2)
        · have := cn_lt (ρ := z.1 5) (r := 2) g (by rw [← h6 j g]; exact hj2)
          omega
      · have hjp : j = p + 1 := by
          rcases Nat.lt_or_ge j (p + 1) with g2 | g2
          · rw [show j = p by omega, h7] at hj2; exact absurd hj2 (by decide)
          · rcases Nat.lt_or_ge (p + 1) j with g3 | g3
            · rcases h9 j g3 hj with k | k | k <;> rw [k] at hj2 <;> exact absurd hj2 (by decide)
            · omega
        rw [hjp, hcn.2.2.2, s2]
    · rw [stF_n (by omega) (by omega)]; exact (h3 _ _ (by decide)).trans q5
    · rw [y7, K2]
      intro k hk
      rcases Nat.lt_or_ge k S with g | g
      · exact Cst_of (Nat.le_refl F) (S := S) (fun i j u v hj => (t7 i j (by omega) (by omega)).trans (h3 i j (by omega))) (fun i j u v hj => h11 i j (by omega) (by omega)) q6 k g
      · have hkS : k = S := by omega
        subst hkS
        refine ⟨a, b, a1, b1, t3.trans a2, t4.trans b2, h12.trans a3, h13.trans b3, ?_, ?_, ?_⟩
        · rw [t2, h10]; exact hkd
        · rw [t5, t2, a2]
        · rw [t6, t2, b2]
    · rw [y7, K2]
      exact Cor_of (Nat.le_refl _) (by omega) (Nat.le_refl _) (Nat.le_refl _) (fun i k u v _ => by rw [stF_n (by omega) (by omega)]; exact h3 i k (by omega)) (fun i k u v _ => by rw [stF_n (by omega) (by omega)]; exact h3 i k (by omega)) (fun _ _ => rfl) (fun i k hi _ => h5 i k (by omega) (by omega)) (fun i k hi _ => h11 i k (by omega) (by omega)) q7
  · exact ⟨fun i k a b => by rw [stF_n (by omega) (by omega)]; exact hwf.1 i k a b, fun i k a b => by rw [stF_2]; exact hwf.2.1 i k a b, hwf.2.2⟩
