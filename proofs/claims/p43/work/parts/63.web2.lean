/-! The class's web and the reference's: the same rows, the same parts -/
theorem least {p : Nat → Bool} : ∀ {c : Nat}, p c = true → ∃ i, i ≤ c ∧ p i = true ∧ ∀ j, j < i → p j = false
  | c, h => by
    by_cases hc : ∃ d, d < c ∧ p d = true
    · obtain ⟨d, hd, hp⟩ := hc
      obtain ⟨i, h1, h2, h3⟩ := least hp
      exact ⟨i, by omega, h2, h3⟩
    · exact ⟨c, Nat.le_refl c, h, fun j hj => by
        cases hp : p j with
        | false => rfl
        | true => exact absurd ⟨j, hj, hp⟩ hc⟩
  termination_by c => c
theorem fst_eq {p : Nat → Bool} {i0 : Nat} (hp : p i0 = true) : ∀ (n i : Nat), i ≤ i0 → i0 < i + n → (∀ j, i ≤ j → j < i0 → p j = false) → fst p n i = i0
  | 0, i, h1, h2, _ => by omega
  | n + 1, i, h1, h2, h3 => by
    show (if p i then i else fst p n (i + 1)) = i0
    by_cases e : i = i0
    · rw [e, if_pos hp]
    · rw [if_neg (by rw [h3 i (Nat.le_refl i) (by omega)]; decide)]
      exact fst_eq hp n (i + 1) (by omega) (by omega) (fun j hj => h3 j (by omega))
theorem fst_cong {p q : Nat → Bool} : ∀ (n i : Nat), (∀ j, j < i + n → p j = q j) → fst p n i = fst q n i
  | 0, _, _ => rfl
  | n + 1, i, h => by
    show (if p i then i else fst p n (i + 1)) = if q i then i else fst q n (i + 1)
    rw [h i (by omega), fst_cong n (i + 1) (fun j hj => h j (by omega))]
theorem lst_lt {A : Mat} {c n : Nat} (hc : c < n) (hn : n ≤ 20) (h : A c c = true) : lst A c ≤ c ∧ (A (lst A c) c && A c (lst A c)) = true ∧ ∀ j, j < lst A c → (A j c && A c j) = false := by
  obtain ⟨i, h1, h2, h3⟩ := least (p := fun i => A i c && A c i) (c := c) (by rw [h]; rfl)
  have : lst A c = i := fst_eq h2 20 0 (Nat.zero_le _) (by omega) (fun j _ hj => h3 j hj)
  rw [this]
  exact ⟨h1, h2, h3⟩
theorem low_eq {s : Int32} {i0 : Nat} (hi : i0 < 32) (hp : bit s i0 = true) : ∀ (n i : Nat), i ≤ i0 → i0 < i + n → (∀ j, i ≤ j → j < i0 → bit s j = false) → lowF s n (nI i) = nI i0
  | 0, i, h1, h2, _ => by omega
  | n + 1, i, h1, h2, h3 => by
    show (if hasB s (nI i) then nI i else lowF s n (nI i + 1)) = nI i0
    rw [hasB_bit (by omega)]
    by_cases e : i = i0
    · rw [e, if_pos hp]
    · rw [if_neg (by rw [h3 i (Nat.le_refl i) (by omega)]; decide), show nI i + 1 = nI (i + 1) from nI_addN i 1]
      exact low_eq hi hp n (i + 1) (by omega) (by omega) (fun j hj => h3 j (by omega))
theorem together_bit {n : Nat} {y : XS} {A : Mat} (hn : n ≤ 20) (h : Rows 39 n y A) (h3 : y.1 37 3 = nI n) {c : Nat} (hc : c < n) : ∀ j, j < 32 → bit (togetherF y (nI c)) j = (decide (j < n) && (A j c && A c j)) := by
  have h0 := small20 c (by omega)
  have hm : min (y.1 37 3).toNatClampNeg 20 = n := by rw [h3, nI_clamp (by omega)]; omega
  unfold togetherF
  rw [hm]
  refine itP_rel (P := fun k p => ∀ j, j < 32 → bit p j = (decide (j < k) && (A j c && A c j))) (fun j hj => ?_) (fun k hk p hp j hj => ?_)
  · rw [bit_zero]; simp
  · unfold togF
    rw [hasB_bit (show c < 32 by omega), h k hk c (by omega), if_neg h0.1, if_neg h0.2.1, h0.2.2.1, hasB_bit (show k < 32 by omega), h c hc k (by omega)]
    by_cases e : j = k
    · subst e
      cases h1 : A j c <;> cases h2 : A c j <;> simp [hp j hj, bit_with (show j < 32 by omega) hj]
    · have hlt : decide (j < k + 1) = decide (j < k) := by
        by_cases q : j < k
        · rw [decide_eq_true q, decide_eq_true (by omega)]
        · rw [decide_eq_false q, decide_eq_false (by omega)]
      rw [hlt]
      cases h1 : A k c <;> cases h2 : A c k <;> simp [hp j hj, bit_with (show k < 32 by omega) hj, e]
theorem part_no {n : Nat} {y : XS} {A : Mat} (hn : n ≤ 20) (h : Rows 39 n y A) (h3 : y.1 37 3 = nI n) {c : Nat} (hc : c < n) (hr : A c c = true) : lowI (togetherF y (nI c)) = nI (lst A c) := by
  obtain ⟨h1, h2, h4⟩ := lst_lt hc hn hr
  have hb := together_bit hn h h3 hc
  refine low_eq (by omega) ?_ 32 0 (Nat.zero_le _) (by omega) (fun j _ hj => ?_)
  · rw [hb _ (by omega), h2, decide_eq_true (by omega)]; rfl
  · rw [hb _ (by omega), h4 j hj, Bool.and_false]
theorem two_nI (F : Nat) : (2 : Int32) * nI F = nI (2 * F) := pk_mul 2 F
theorem nI_inj {a b : Nat} (ha : a < 2 ^ 31) (hb : b < 2 ^ 31) : nI a = nI b ↔ a = b := by
  refine ⟨fun h => ?_, fun h => by rw [h]⟩
  have := congrArg Int32.toNatClampNeg h
  rwa [nI_clamp ha, nI_clamp hb] at this
theorem addStep_nI {y : XS} {c : Nat} {d : Int32} (hc : c < 20) : addStepF y (nI c) d = setI y 38 c (withI (y.1 38 c) d) := by
  obtain ⟨h1, h2, h3, -⟩ := small20 c hc
  unfold addStepF
  rw [if_neg h1, if_neg h2, h3]
theorem stm_rows {x : XS} {F S : Nat} {l r : Nat → Nat} {s : Int32} (hB : BkX x F S l r) {j : Nat} (hj : j < S) {y : XS} (h25 : ∀ k, y.1 25 k = x.1 25 k) (h26 : ∀ k, y.1 26 k = x.1 26 k) (hy : Rows 38 (2 * F) y (stA l r s j)) : Rows 38 (2 * F) (stmF s j y) (stA l r s (j + 1)) := by
  obtain ⟨hF, hS, -, -, hlt, hlr⟩ := hB
  obtain ⟨hl, hr⟩ := hlt j hj
  obtain ⟨el, er⟩ := hlr j hj
  have hx := x1_lt F (by omega)
  have hl1 := hx _ hl
  have hr1 := hx _ hr
  obtain ⟨-, -, -, xl, -⟩ := small20 (l j) (by omega)
  obtain ⟨-, -, -, xr, -⟩ := small20 (r j) (by omega)
  unfold stmF
  rw [hasB_bit (show j < 32 by omega)]
  cases hb : bit s j with
  | false =>
    rw [if_neg (by decide)]
    intro c hc d hd
    rw [hy c hc d hd]
    show _ = (stA l r s j c d || (bit s j && _))
    rw [hb, Bool.false_and, Bool.or_false]
  | true =>
    rw [if_pos rfl]
    have e25 : ∀ z : XS, (∀ k, z.1 25 k = x.1 25 k) → entI z 25 20 (nI j) = nI (l j) := fun z hz => by rw [entI_nI (by omega) (by decide), hz, el]
    have e26 : ∀ z : XS, (∀ k, z.1 26 k = x.1 26 k) → entI z 26 20 (nI j) = nI (r j) := fun z hz => by rw [entI_nI (by omega) (by decide), hz, er]
    dsimp only
    rw [e25 y h25, e26 y h26, xl, addStep_nI (by omega), e25 _ (fun k => by rw [rdI_ne (by decide)]; exact h25 k), e26 _ (fun k => by rw [rdI_ne (by decide)]; exact h26 k), xr, addStep_nI (by omega)]
    have h1 := set_rows (d0 := r j) (c0 := l j ^^^ 1) (by omega) hy
    have h2 := set_rows (d0 := l j) (c0 := r j ^^^ 1) (by omega) h1
    intro c hc d hd
    rw [h2 c hc d hd]
    show _ = (stA l r s j c d || (bit s j && _))
    rw [hb, Bool.true_and]
    exact Bool.or_assoc _ _ _
theorem web_ok {x : XS} {F S : Nat} {l r : Nat → Nat} {s : Int32} (hB : BkX x F S l r) (hw : x.1 37 5 = -1 ∨ WebC x F S l r (x.1 37 5)) (hs : s ≠ -1) : WebC (webLook s x) F S l r s ∧ (webLook s x).1 37 5 = s := by
  have hB' := hB
  obtain ⟨hF, hS, eF, eS, hlt, hlr⟩ := hB
  by_cases hc : s = x.1 37 5
  · unfold webLook
    rw [if_pos hc]
    rcases hw with h | h
    · exact absurd (hc.trans h) hs
    · rw [hc]; exact ⟨h, rfl⟩
  · unfold webLook
    rw [if_neg hc]
    dsimp only
    have f1 : (setI x 37 5 s).1 21 0 = nI F := by rw [rdI_ne (by decide)]; exact eF
    rw [f1, two_nI]
    generalize hx2 : setI (setI x 37 5 s) 37 3 (nI (2 * F)) = x2
    have g3 : x2.1 37 3 = nI (2 * F) := by rw [← hx2]; exact rdI_eq
    have g5 : x2.1 37 5 = s := by rw [← hx2, rdI_nk (by decide)]; exact rdI_eq
    have gq : ∀ q k, q ≠ 37 → x2.1 q k = x.1 q k := fun q k h => by rw [← hx2, rdI_ne h, rdI_ne h]
    have hm : min (x2.1 37 3).toNatClampNeg 20 = 2 * F := by rw [g3, nI_clamp (by omega)]; omega
    rw [hm]
    have z0 : ∀ c, c < 2 * F → (itP zerF (2 * F) x2).1 38 c = 0 := by
      refine itP_rel (P := fun k (y : XS) => ∀ c, c < k → y.1 38 c = 0) (fun c h => absurd h (Nat.not_lt_zero c)) (fun k hk y hy c hck => ?_)
      unfold zerF
      by_cases e : c = k
      · rw [e]; exact rdI_eq
      · rw [rdI_nk e]; exact hy c (by omega)
    have zq : ∀ q k, q ≠ 38 → (itP zerF (2 * F) x2).1 q k = x2.1 q k := fun q k h => itP_1 (fun j y => rdI_ne h) _ _
    generalize itP zerF (2 * F) x2 = x3 at z0 zq
    have hS3 : (x3.1 21 1).toNatClampNeg = S := by rw [zq _ _ (by decide), gq _ _ (by decide), eS, nI_clamp (by omega)]
    rw [hS3]
    have h4 : Rows 38 (2 * F) (itP (stmF s) S x3) (stA l r s S) ∧ ∀ q k, q ≠ 38 → (itP (stmF s) S x3).1 q k = x3.1 q k := by
      refine itP_rel (P := fun j (y : XS) => Rows 38 (2 * F) y (stA l r s j) ∧ ∀ q k, q ≠ 38 → y.1 q k = x3.1 q k) ⟨fun c hc d hd => by rw [z0 c hc, bit_zero]; rfl, fun _ _ _ => rfl⟩ (fun j hj y hy => ⟨?_, fun q k h => (stmF_1 h).trans (hy.2 q k h)⟩)
      refine stm_rows hB' hj (fun k => ?_) (fun k => ?_) hy.1
      · rw [hy.2 _ _ (by decide), zq _ _ (by decide), gq _ _ (by decide)]
      · rw [hy.2 _ _ (by decide), zq _ _ (by decide), gq _ _ (by decide)]
    generalize itP (stmF s) S x3 = x4 at h4
    obtain ⟨r4, q4⟩ := h4
    have k37 : ∀ k, x4.1 37 k = x2.1 37 k := fun k => by rw [q4 _ _ (by decide), zq _ _ (by decide)]
    have hn : closeN x4 = 2 * F := by unfold closeN; rw [minI_self, minI_le (by decide), k37, g3, nI_clamp (by omega)]; omega
    have h5 : Rows 39 (2 * F) (closeF x4) (RR F S l r s) := by
      unfold closeF
      rw [hn]
      have ra : Rows 39 (2 * F) (itP clsA (2 * F) x4) (A0 l r s S) := by
        have : ∀ c, c < 2 * F → (itP clsA (2 * F) x4).1 39 c = withI (x4.1 38 c) (nI c) := by
          refine (itP_rel (P := fun k (y : XS) => (∀ c, c < k → y.1 39 c = withI (x4.1 38 c) (nI c)) ∧ ∀ c, y.1 38 c = x4.1 38 c) ⟨fun c h => absurd h (Nat.not_lt_zero c), fun _ => rfl⟩ (fun k hk y hy => ⟨fun c hck => ?_, fun c => ?_⟩)).1
          · unfold clsA
            by_cases e : c = k
            · rw [e, rdI_eq, hy.2]
            · rw [rdI_nk e]; exact hy.1 c (by omega)
          · unfold clsA; rw [rdI_ne (by decide)]; exact hy.2 c
        intro c hc d hd
        rw [this c hc, bit_with (by omega) hd, r4 c hc d hd]
        show _ = (decide (c = d) || stA l r s S c d)
        rw [Bool.or_comm]
        by_cases e : c = d
        · simp [e]
        · rw [decide_eq_false e, decide_eq_false (fun z => e z.symm)]
      rw [itP_cong (g := fun m => itP (upQ 39 m) (2 * F)) (fun m hm y => itP_cong (fun c _ y => clsB_up (by omega) y))]
      exact clo_rows (by omega) ra (2 * F) (Nat.le_refl _)
    have q5 : ∀ q k, q ≠ 39 → (closeF x4).1 q k = x4.1 q k := fun q k h => close_1 h
    generalize closeF x4 = x5 at h5 q5
    generalize hx6 : setI x5 37 4 0 = x6
    have g6 : ∀ q k, q ≠ 37 ∨ k ≠ 4 → x6.1 q k = x5.1 q k := fun q k h => by
      rw [← hx6]
      rcases h with h | h
      · exact rdI_ne h
      · exact rdI_nk h
    have g63 : x6.1 37 3 = nI (2 * F) := by rw [g6 _ _ (Or.inr (by decide)), q5 _ _ (by decide), k37, g3]
    rw [g63, nI_clamp (by omega)]
    have h7 := itP_rel (f := cntF) (n := 2 * F) (y := x6) (P := fun k (y : XS) => y.1 37 4 = nI (fb_ct (fun c => decide (lst (RR F S l r s) c = c)) k) ∧ ∀ q k, q ≠ 37 ∨ k ≠ 4 → y.1 q k = x6.1 q k) ⟨by rw [← hx6]; exact rdI_eq, fun _ _ _ => rfl⟩ (fun k hk y hy => by
      have hp : lowI (togetherF y (nI k)) = nI (lst (RR F S l r s) k) := by
        refine part_no (n := 2 * F) (by omega) (fun c hc d hd => ?_) (by rw [hy.2 _ _ (Or.inr (by decide)), g63]) hk (RR_refl k)
        rw [hy.2 _ _ (Or.inl (by decide)), g6 _ _ (Or.inl (by decide))]
        exact h5 c hc d hd
      obtain ⟨hle, -⟩ := lst_lt (A := RR F S l r s) hk (by omega) (RR_refl k)
      unfold cntF
      rw [hp]
      by_cases e : lst (RR F S l r s) k = k
      · rw [if_pos (by rw [e])]
        refine ⟨?_, fun q k' h => ?_⟩
        · rw [rdI_eq, hy.1, fb_ct_succ, e, decide_eq_true rfl]
          exact nI_addN _ 1
        · rcases h with h | h
          · rw [rdI_ne h]; exact hy.2 _ _ (Or.inl h)
          · rw [rdI_nk h]; exact hy.2 _ _ (Or.inr h)
      · rw [if_neg (fun z => e ((nI_inj (by omega) (by omega)).mp z))]
        refine ⟨?_, hy.2⟩
        rw [hy.1, fb_ct_succ, decide_eq_false e]; rfl)
    generalize itP cntF (2 * F) x6 = x7 at h7
    obtain ⟨p1, p2⟩ := h7
    refine ⟨⟨?_, fun c hc d hd => ?_, fun c hc d hd => ?_, p1⟩, ?_⟩
    · rw [p2 _ _ (Or.inr (by decide)), g63]
    · rw [p2 _ _ (Or.inl (by decide)), g6 _ _ (Or.inl (by decide)), q5 _ _ (by decide)]; exact r4 c hc d hd
    · rw [p2 _ _ (Or.inl (by decide)), g6 _ _ (Or.inl (by decide))]; exact h5 c hc d hd
    · rw [p2 _ _ (Or.inr (by decide)), g6 _ _ (Or.inr (by decide)), q5 _ _ (by decide), k37, g5]

