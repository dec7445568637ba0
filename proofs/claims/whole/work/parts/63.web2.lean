/-! The class's web and the reference's: the same rows, the same parts -/
theorem least {p : Nat → Bool} : ∀ {c : Nat}, p c = true → ∃ i, i ≤ c ∧ p i = true ∧ ∀ j, j < i → p j = false
  | c, h => by
    by_cases hc : ∃ d, d < c ∧ p d = true
    · obtain ⟨d, hd, hp⟩ := hc
      obtain ⟨i, h1, h2, h3⟩ := least hp
      exact ⟨i, by omega, h2, h3⟩
    · exact ⟨c, Nat.le_refl c, h, fun j hj => by
        cases hp : p j with
        | false => rfl
        | true => exact absurd ⟨j, hj, hp⟩ hc⟩
  termination_by c => c
theorem fst_eq {p : Nat → Bool} {i0 : Nat} (hp : p i0 = true) : ∀ (n i : Nat), i ≤ i0 → i0 < i + n → (∀ j, i ≤ j → j < i0 → p j = false) → fst p n i = i0
  | 0, i, h1, h2, _ => by omega
  | n + 1, i, h1, h2, h3 => by
    show (if p i then i else fst p n (i + 1)) = i0
    by_cases e : i = i0
    · rw [e, if_pos hp]
    · rw [if_neg (by rw [h3 i (Nat.le_refl i) (by omega)]; decide)]
      exact fst_eq hp n (i + 1) (by omega) (by omega) (fun j hj => h3 j (by omega))
theorem fst_cong {p q : Nat → Bool} : ∀ (n i : Nat), (∀ j, j < i + n → p j = q j) → fst p n i = fst q n i
  | 0, _, _ => rfl
  | n + 1, i, h => by
    show (if p i then i else fst p n (i + 1)) = if q i then i else fst q n (i + 1)
    rw [h i (by omega), fst_cong n (i + 1) (fun j hj => h j (by omega))]
theorem lst_lt {A : Mat} {c n : Nat} (hc : c < n) (hn : n ≤ 20) (h : A c c = true) : lst A c ≤ c ∧ (A (lst A c) c && A c (lst A c)) = true ∧ ∀ j, j < lst A c → (A j c && A c j) = false := by
  obtain ⟨i, h1, h2, h3⟩ := least (p := fun i => A i c && A c i) (c := c) (by rw [h]; rfl)
  have : lst A c = i := fst_eq h2 20 0 (Nat.zero_le _) (by omega) (fun j _ hj => h3 j hj)
  rw [this]
  exact ⟨h1, h2, h3⟩
theorem low_eq {s : Int32} {i0 : Nat} (hi : i0 < 32) (hp : bit s i0 = true) : ∀ (n i : Nat), i ≤ i0 → i0 < i + n → (∀ j, i ≤ j → j < i0 → bit s j = false) → lowF s n (nI i) = nI i0
  | 0, i, h1, h2, _ => by omega
  | n + 1, i, h1, h2, h3 => by
    show (if hasB s (nI i) then nI i else lowF s n (nI i + 1)) = nI i0
    rw [hasB_bit (by omega)]
    by_cases e : i = i0
    · rw [e, if_pos hp]
    · rw [if_neg (by rw [h3 i (Nat.le_refl i) (by omega)]; decide), show nI i + 1 = nI (i + 1) from nI_addN i 1]
      exact low_eq hi hp n (i + 1) (by omega) (by omega) (fun j hj => h3 j (by omega))
theorem together_bit {n : Nat} {y : XS} {A : Mat} (hn : n ≤ 20) (h : Rows 39 n y A) (h3 : y.1 37 3 = nI n) {c : Nat} (hc : c < n) : ∀ j, j < 32 → bit (togetherF y (nI c)) j = (decide (j < n) && (A j c && A c j)) := by
  have h0 := small20 c (by omega)
  have hm : min (y.1 37 3).toNatClampNeg 20 = n := by rw [h3, nI_clamp (by omega)]; omega
  unfold togetherF
  rw [hm]
  refine itP_rel (P := fun k p => ∀ j, j < 32 → bit p j = (decide (j < k) && (A j c && A c j))) (fun j hj => ?_) (fun k hk p hp j hj => ?_)
  · rw [bit_zero]; simp
  · unfold togF
    rw [hasB_bit (show c < 32 by omega), h k hk c (by omega), if_neg h0.1, if_neg h0.2.1, h0.2.2.1, hasB_bit (show k < 32 by omega), h c hc k (by omega)]
    by_cases e : j = k
    · subst e
      cases h1 : A j c <;> cases h2 : A c j <;> simp [hp j hj, bit_with (show j < 32 by omega) hj]
    · have hlt : decide (j < k + 1) = decide (j < k) := by
        by_cases q : j < k
        · rw [decide_eq_true q, decide_eq_true (by omega)]
        · rw [decide_eq_false q, decide_eq_false (by omega)]
      rw [hlt]
      cases h1 : A k c <;> cases h2 : A c k <;> simp [hp j hj, bit_with (show k < 32 by omega) hj, e]
theorem part_no {n : Nat} {y : XS} {A : Mat} (hn : n ≤ 20) (h : Rows 39 n y A) (h3 : y.1 37 3 = nI n) {c : Nat} (hc : c < n) (hr : A c c = true) : lowI (togetherF y (nI c)) = nI (lst A c) := by
  obtain ⟨h1, h2, h4⟩ := lst_lt hc hn hr
  have hb := together_bit hn h h3 hc
  refine low_eq (by omega) ?_ 32 0 (Nat.zero_le _) (by omega) (fun j _ hj => ?_)
  · rw [hb _ (by omega), h2, decide_eq_true (by omega)]; rfl
  · rw [hb _ (by omega), h4 j hj, Bool.and_false]
theorem two_nI (F : Nat) : (2 : Int32) * nI F = nI (2 * F) := pk_mul 2 F
theorem nI_inj {a b : Nat} (ha : a < 2 ^ 31) (hb : b < 2 ^ 31) : nI a = nI b ↔ a = b := by
  refine ⟨fun h => ?_, fun h => by rw [h]⟩
  have := congrArg Int32.toNatClampNeg h
  rwa [nI_clamp ha, nI_clamp hb] at this
theorem addStep_nI {y : XS} {c : Nat} {d : Int32} (hc : c < 20) : addStepF y (nI c) d = setI y 38 c (withI (y.1 38 c) d) := by
  obtain ⟨h1, h2, h3, -⟩ := small20 c hc
  unfold addStepF
  rw [if_neg h1, if_neg h2, h3]
theorem stm_rows {x : XS} {F S : Nat} {l r : Nat → Nat} {s : Int32} (hB : BkX x F S l r) {j : Nat} (hj : j < S) {y : XS} (h25 : ∀ k, y.1 25 k = x.1 25 k) (h26 : ∀ k, y.1 26 k = x.1 26 k) (hy : Rows 38 (2 * F) y (stA l r s j)) : Rows 38 (2 * F) (stmF s j y) (stA l r s (j + 1)) := by
  obtain ⟨hF, hS, -, -, hlt, hlr⟩ := hB
  obtain ⟨hl, hr⟩ := hlt j hj
  obtain ⟨el, er⟩ := hlr j hj
  have hx := x1_lt F (by omega)
  have hl1 := hx _ hl
  have hr1 := hx _ hr
  obtain ⟨-, -, -, xl, -⟩ := small20 (l j) (by omega)
  obtain ⟨-, -, -, xr, -⟩ := small20 (r j) (by omega)
  unfold stmF
  rw [hasB_bit (show j < 32 by omega)]
  cases hb : bit s j with
  | false =>
    rw [if_neg (by decide)]
    intro c hc d hd
    rw [hy c hc d hd]
    show _ = (stA l r s j c d || (bit s j && _))
    rw [hb, Bool.false_and, Bool.or_false]
  | true =>
    rw [if_pos rfl]
    have e25 : ∀ z : XS, (∀ k, z.1 25 k = x.1 25 k) → entI z 25 20 (nI j) = nI (l j) := fun z hz => by rw [entI_nI (by omega) (by decide), hz, el]
    have e26 : ∀ z : XS, (∀ k, z.1 26 k = x.1 26 k) → entI z 26 20 (nI j) = nI (r j) := fun z hz => by rw [entI_nI (by omega) (by decide), hz, er]
    dsimp only
    rw [e25 y h25, e26 y h26, xl, addStep_nI (by omega), e25 _ (fun k => by rw [rdI_ne (by decide)]; exact h25 k), e26 _ (fun k => by rw [rdI_ne (by decide)]; exact h26 k), xr, addStep_nI (by omega)]
    have h1 := set_rows (d0 := r j) (c0 := l j ^^^ 1) (by omega) hy
    have h2 := set_rows (d0 := l j) (c0 := r j ^^^ 1) (by omega) h1
    intro c hc d hd
    rw [h2 c hc d hd]
    show _ = (stA l r s j c d || (bit s j && _))
    rw [hb, Bool.true_and]
    exact Bool.or_assoc _ _ _
theorem web_ok {x : XS} {F S : Nat} {l r : Nat → Nat} {s : Int32} (hB : BkX x F S l r) (hw : x.1 37 5 = -1 ∨ WebC x F S l r (x.1 37 5)) (hs : s ≠ -1) : WebC (webLook s x) F S l r s ∧ (webLook s x).1 37 5 = s := by
  have hB' := hB
  obtain ⟨hF, hS, eF, eS, hlt, hlr⟩ := hB
  by_cases hc : s = x.1 37 5
  · unfold webLook
    rw [if_pos hc]
    rcases hw with h | h
    · exact absurd (hc.trans h) hs
    · rw [hc]; exact ⟨h, rfl⟩
  · unfold webLook
    rw [if_neg hc]
    dsimp only
    have f1 : (setI x 37 5 s).1 21 0 = nI F := by rw [rdI_ne (by decide)]; exact eF
    rw [f1, two_nI]
    generalize hx2 : setI (setI x 37 5 s) 37 3 (nI (2 * F)) = x2
    have g3 : x2.1 37 3 = nI (2 * F) := by rw [← hx2]; exact rdI_eq
    have g5 : x2.1 37 5 = s := by rw [← hx2, rdI_nk (by decide)]; exact rdI_eq
    have gq : ∀ q k, q ≠ 37 → x2.1 q k = x.1 q k := fun q k h => by rw [← hx2, rdI_ne h, rdI_ne h]
    have hm : min (x2.1 37 3).toNatClampNeg 20 = 2 * F := by rw [g3, nI_clamp (by omega)]; omega
    rw [hm]
    have z0 : ∀ c, c < 2 * F → (itP zerF (2 * F) x2).1 38 c = 0 := by
      refine itP_rel (P := fun k (y : XS) => ∀ c, c < k → y.1 38 c = 0) (fun c h => absurd h (Nat.not_lt_zero c)) (fun k hk y hy c hck => ?_)
      unfold zerF
      by_cases e : c = k
      · rw [e]; exact rdI_eq
      · rw [rdI_nk e]; exact hy c (by omega)
    have zq : ∀ q k, q ≠ 38 → (itP zerF (2 * F) x2).1 q k = x2.1 q k := fun q k h => itP_1 (fun j y => rdI_ne h) _ _
    generalize itP zerF (2 * F) x2 = x3 at z0 zq
    have hS3 : (x3.1 21 1).toNatClampNeg = S := by rw [zq _ _ (by decide), gq _ _ (by decide), eS, nI_clamp (by omega)]
    rw [hS3]
    have h4 : Rows 38 (2 * F) (itP (stmF s) S x3) (stA l r s S) ∧ ∀ q k, q ≠ 38 → (itP (stmF s) S x3).1 q k = x3.1 q k := by
      refine itP_rel (P := fun j (y : XS) => Rows 38 (2 * F) y (stA l r s j) ∧ ∀ q k, q ≠ 38 → y.1 q k = x3.1 q k) ⟨fun c hc d hd => by rw [z0 c hc, bit_zero]; rfl, fun _ _ _ => rfl⟩ (fun j hj y hy => ⟨?_, fun q k h => (stmF_1 h).trans (hy.2 q k h)⟩)
      refine stm_rows hB' hj (fun k => ?_) (fun k => ?_) hy.1
      · rw [hy.2 _ _ (by decide), zq _ _ (by decide), gq _ _ (by decide)]
      · rw [hy.2 _ _ (by decide), zq _ _ (by decide), gq _ _ (by decide)]
    generalize itP (stmF s) S x3 = x4 at h4
    obtain ⟨r4, q4⟩ := h4
    have k37 : ∀ k, x4.1 37 k = x2.1 37 k := fun k => by rw [q4 _ _ (by decide), zq _ _ (by decide)]
    have hn : closeN x4 = 2 * F := by unfold closeN; rw [minI_self, minI_le (by decide), k37, g3, nI_clamp (by omega)]; omega
    have h5 : Rows 39 (2 * F) (closeF x4) (RR F S l r s) := by
      unfold closeF
      rw [hn]
      have ra : Rows 39 (2 * F) (itP clsA (2 * F) x4) (A0 l r s S) := by
        have : ∀ c, c < 2 * F → (itP clsA (2 * F) x4).1 39 c = withI (x4.1 38 c) (nI c) := by
          refine (itP_rel (P := fun k (y : XS) => (∀ c, c < k → y.1 39 c = withI (x4.1 38 c) (nI c)) ∧ ∀ c, y.1 38 c = x4.1 38 c) ⟨fun c h => absurd h (Nat.not_lt_zero c), fun _ => rfl⟩ (fun k hk y hy => ⟨fun c hck => ?_, fun c => ?_⟩)).1
          · unfold clsA
            by_cases e : c = k
            · rw [e, rdI_eq, hy.2]
            · rw [rdI_nk e]; exact hy.1 c (by omega)
          · unfold clsA; rw [rdI_ne (by decide)]; exact hy.2 c
        intro c hc d hd
        rw [this c hc, bit_with (by omega) hd, r4 c hc d hd]
        show _ = (decide (c = d) || stA l r s S c d)
        rw [Bool.or_comm]
        by_cases e : c = d
        · simp [e]
        · rw [decide_eq_false e, decide_eq_false (fun z => e z.symm)]
      rw [itP_cong (g := fun m => itP (upQ 39 m) (2 * F)) (fun m hm y => itP_cong (fun c _ y => clsB_up (by omega) y))]
      exact clo_rows (by omega) ra (2 * F) (Nat.le_refl _)
    have q5 : ∀ q k, q ≠ 39 → (closeF x4).1 q k = x4.1 q k := fun q k h => close_1 h
    generalize closeF x4 = x5 at h5 q5
    generalize hx6 : setI x5 37 4 0 = x6
    have g6 : ∀ q k, q ≠ 37 ∨ k ≠ 4 → x6.1 q k = x5.1 q k := fun q k h => by
      rw [← hx6]
      rcases h with h | h
      · exact rdI_ne h
      · exact rdI_nk h
    have g63 : x6.1 37 3 = nI (2 * F) := by rw [g6 _ _ (Or.inr (by decide)), q5 _ _ (by decide), k37, g3]
    rw [g63, nI_clamp (by omega)]
    have h7 := itP_rel (f := cntF) (n := 2 * F) (y := x6) (P := fun k (y : XS) => y.1 37 4 = nI (fb_ct (fun c => decide (lst (RR F S l r s) c = c)) k) ∧ ∀ q k, q ≠ 37 ∨ k ≠ 4 → y.1 q k = x6.1 q k) ⟨by rw [← hx6]; exact rdI_eq, fun _ _ _ => rfl⟩ (fun k hk y hy => by
      have hp : lowI (togetherF y (nI k)) = nI (lst (RR F S l r s) k) := by
        refine part_no (n := 2 * F) (by omega) (fun c hc d hd => ?_) (by rw [hy.2 _ _ (Or.inr (by decide)), g63]) hk (RR_refl k)
        rw [hy.2 _ _ (Or.inl (by decide)), g6 _ _ (Or.inl (by decide))]
        exact h5 c hc d hd
      obtain ⟨hle, -⟩ := lst_lt (A := RR F S l r s) hk (by omega) (RR_refl k)
      unfold cntF
      rw [hp]
      by_cases e : lst (RR F S l r s) k = k
      · rw [if_pos (by rw [e])]
        refine ⟨?_, fun q k' h => ?_⟩
        · rw [rdI_eq, hy.1, fb_ct_succ, e, decide_eq_true rfl]
          exact nI_addN _ 1
        · rcases h with h | h
          · rw [rdI_ne h]; exact hy.2 _ _ (Or.inl h)
          · rw [rdI_nk h]; exact hy.2 _ _ (Or.inr h)
      · rw [if_neg (fun z => e ((nI_inj (by omega) (by omega)).mp z))]
        refine ⟨?_, hy.2⟩
        rw [hy.1, fb_ct_succ, decide_eq_false e]; rfl)
    generalize itP cntF (2 * F) x6 = x7 at h7
    obtain ⟨p1, p2⟩ := h7
    refine ⟨⟨?_, fun c hc d hd => ?_, fun c hc d hd => ?_, p1⟩, ?_⟩
    · rw [p2 _ _ (Or.inr (by decide)), g63]
    · rw [p2 _ _ (Or.inl (by decide)), g6 _ _ (Or.inl (by decide)), q5 _ _ (by decide)]; exact r4 c hc d hd
    · rw [p2 _ _ (Or.inl (by decide)), g6 _ _ (Or.inl (by decide))]; exact h5 c hc d hd
    · rw [p2 _ _ (Or.inr (by decide)), g6 _ _ (Or.inr (by decide)), q5 _ _ (by decide), k37, g5]

theorem sm_eq {z : XS} {cl : Int32} : ∀ (n i : Nat), smL z cl n i = nI (fst (fun i => areB z (nI i) cl) n i)
  | 0, _ => rfl
  | n + 1, i => by
    show (if areB z (nI i) cl then nI i else smL z cl n (i + 1)) = nI (if areB z (nI i) cl then i else fst (fun i => areB z (nI i) cl) n (i + 1))
    rw [sm_eq n (i + 1)]
    split <;> rfl
theorem are_eq {z : XS} {A : Mat} (h : Rows 9 20 z A) {a b : Nat} (ha : a < 20) (hb : b < 20) : areB z (nI a) (nI b) = (A a b && A b a) := by
  unfold areB
  rw [nI_clamp (by omega), nI_clamp (by omega), mhasB_bit (by omega), mhasB_bit (by omega), h a ha b (by omega), h b hb a (by omega)]
theorem smF_eq {z : XS} {A : Mat} (h : Rows 9 20 z A) {c : Nat} (hc : c < 20) (hr : A c c = true) : smF z (nI c) = nI (lst A c) := by
  obtain ⟨h1, h2, h3⟩ := lst_lt hc (Nat.le_refl _) hr
  unfold smF
  rw [sm_eq]
  congr 1
  exact fst_cong 20 0 (fun j hj => are_eq h (by omega) hc)
theorem mst_rows {z : XS} {F S : Nat} {l r : Nat → Nat} {s : Int32} (hB : BkZ z F S l r) {j : Nat} (hj : j < S) {y : XS} (hs : y.1 0 15 = s) (hq : ∀ q k, q ≠ 9 → y.1 q k = z.1 q k ∨ q = 0) {A : Mat} (hy : Rows 9 20 y (fun c d => A c d || stA l r s j c d)) : Rows 9 20 (mstF j y) (fun c d => A c d || stA l r s (j + 1) c d) := by
  obtain ⟨hF, hS, -, -, hlt, hlr⟩ := hB
  obtain ⟨hl, hr⟩ := hlt j hj
  obtain ⟨el, er⟩ := hlr j hj
  obtain ⟨-, -, -, xl, xl2⟩ := small20 (l j) (by omega)
  obtain ⟨-, -, -, xr, xr2⟩ := small20 (r j) (by omega)
  have e1 : ∀ w : XS, (∀ q k, q ≠ 9 → w.1 q k = y.1 q k) → oneF w 11 (nI j) = nI (l j) ∧ otherF w 11 (nI j) = nI (r j) := by
    intro w hw
    have g : ∀ q k, q ≠ 9 → q ≠ 0 → w.1 q k = z.1 q k := fun q k h h0 => by
      rw [hw q k h]
      rcases hq q k h with h2 | h2
      · exact h2
      · exact absurd h2 h0
    rw [one_eq (fun i => g 12 i (by decide) (by decide)) (fun i => g 13 i (by decide) (by decide)), other_eq (fun i => g 12 i (by decide) (by decide)) (fun i => g 14 i (by decide) (by decide))]
    exact ⟨el, er⟩
  unfold mstF
  rw [hs, mhasB_bit (show j < 32 by omega)]
  cases hb : bit s j with
  | false =>
    rw [if_neg (by decide)]
    intro c hc d hd
    rw [hy c hc d hd]
    show _ = (A c d || (stA l r s j c d || (bit s j && _)))
    rw [hb, Bool.false_and, Bool.or_false]
  | true =>
    rw [if_pos rfl]
    obtain ⟨a1, a2⟩ := e1 y (fun _ _ _ => rfl)
    dsimp only
    rw [a1, a2, xl, nI_clamp (by omega)]
    obtain ⟨b1, b2⟩ := e1 (setI y 9 (l j ^^^ 1) (y.1 9 (l j ^^^ 1) ||| (1 : Int32) <<< (nI (r j) &&& 31))) (fun q k h => rdI_ne h)
    rw [b1, b2, xr, nI_clamp (by omega)]
    have h1 := set_rows (d0 := r j) (c0 := l j ^^^ 1) (by omega) hy
    have h2 := set_rows (d0 := l j) (c0 := r j ^^^ 1) (by omega) h1
    intro c hc d hd
    refine (h2 c hc d hd).trans ?_
    show (A c d || stA l r s j c d || _ || _) = (A c d || (stA l r s j c d || (bit s j && _)))
    rw [hb, Bool.true_and, Bool.or_assoc, Bool.or_assoc]
set_option maxRecDepth 100000 in
theorem fol_ok {z : XS} {F S : Nat} {l r : Nat → Nat} {s : Int32} (hB : BkZ z F S l r) (hz : z.1 0 22 = -1 ∨ FolC z F S l r (z.1 0 22)) (hs : s ≠ -1) (h15 : z.1 0 15 = s) : FolC (mfol z) F S l r s ∧ (mfol z).1 0 22 = s := by
  have hB' := hB
  obtain ⟨hF, hS, eF, eS, hlt, hlr⟩ := hB
  by_cases hc : z.1 0 22 = z.1 0 15
  · unfold mfol
    rw [if_pos hc]
    rcases hz with h | h
    · exact absurd (h15.symm.trans (hc.symm.trans h)) hs
    · rw [hc, h15] at h; exact ⟨h, hc.trans h15⟩
  · unfold mfol
    rw [if_neg hc]
    dsimp only
    rw [h15]
    generalize hx1 : setI z 0 22 s = x1
    have g22 : x1.1 0 22 = s := by rw [← hx1]; exact rdI_eq
    have gq : ∀ q k, q ≠ 0 ∨ k ≠ 22 → x1.1 q k = z.1 q k := fun q k h => by
      rw [← hx1]
      rcases h with h | h
      · exact rdI_ne h
      · exact rdI_nk h
    have h2 : (∀ c, c < 20 → (itP (fun j y => setI y 9 j ((1 : Int32) <<< (nI j &&& 31))) 20 x1).1 9 c = (1 : Int32) <<< (nI c &&& 31)) ∧ ∀ q k, q ≠ 9 → (itP (fun j y => setI y 9 j ((1 : Int32) <<< (nI j &&& 31))) 20 x1).1 q k = x1.1 q k := by
      refine itP_rel (P := fun n (y : XS) => (∀ c, c < n → y.1 9 c = (1 : Int32) <<< (nI c &&& 31)) ∧ ∀ q k, q ≠ 9 → y.1 q k = x1.1 q k) ⟨fun c h => absurd h (Nat.not_lt_zero c), fun _ _ _ => rfl⟩ (fun n hn y hy => ⟨fun c hcn => ?_, fun q k h => (rdI_ne h).trans (hy.2 q k h)⟩)
      by_cases e : c = n
      · rw [e]; exact rdI_eq
      · rw [rdI_nk e]; exact hy.1 c (by omega)
    generalize itP (fun j y => setI y 9 j ((1 : Int32) <<< (nI j &&& 31))) 20 x1 = x2 at h2
    obtain ⟨r2, q2⟩ := h2
    have hS2 : (x2.1 11 1).toNatClampNeg = S := by rw [q2 _ _ (by decide), gq _ _ (Or.inl (by decide)), eS, nI_clamp (by omega)]
    rw [hS2]
    have h3 : Rows 9 20 (itP mstF S x2) (A0 l r s S) ∧ ∀ q k, q ≠ 9 → (itP mstF S x2).1 q k = x2.1 q k := by
      refine itP_rel (P := fun j (y : XS) => Rows 9 20 y (A0 l r s j) ∧ ∀ q k, q ≠ 9 → y.1 q k = x2.1 q k) ⟨fun c hc d hd => ?_, fun _ _ _ => rfl⟩ (fun j hj y hy => ⟨?_, fun q k h => (mst_1 h).trans (hy.2 q k h)⟩)
      · rw [r2 c hc, bit_shl1 (by omega) hd]
        show _ = (decide (c = d) || false)
        rw [Bool.or_false]
        by_cases e : c = d
        · simp [e]
        · rw [decide_eq_false e, decide_eq_false (fun z => e z.symm)]
      · refine mst_rows hB' hj (by rw [hy.2 _ _ (by decide), q2 _ _ (by decide), gq _ _ (Or.inr (by decide)), h15]) (fun q k h => ?_) hy.1
        by_cases e : q = 0
        · exact Or.inr e
        · exact Or.inl (by rw [hy.2 _ _ h, q2 _ _ h, gq _ _ (Or.inl e)])
    generalize itP mstF S x2 = x3 at h3
    obtain ⟨r3, q3⟩ := h3
    have h4 : Rows 9 20 (itP (fun m => itP (mclB m) 20) 20 x3) (RR F S l r s) ∧ ∀ q k, q ≠ 9 → (itP (fun m => itP (mclB m) 20) 20 x3).1 q k = x3.1 q k := by
      refine ⟨?_, fun q k h => itP_1 (fun m y => itP_1 (fun c y => mcl_1 h) _ _) _ _⟩
      rw [itP_cong (g := fun m => itP (upQ 9 m) 20) (fun m hm y => itP_cong (fun c _ y => mclB_up (by omega) y))]
      have := clo_rows (by decide) r3 20 (Nat.le_refl _)
      intro c hc d hd
      rw [this c hc d hd, ← clo_more hF hlt c d (20 - 2 * F), show 2 * F + (20 - 2 * F) = 20 by omega]
    generalize itP (fun m => itP (mclB m) 20) 20 x3 = x4 at h4
    obtain ⟨r4, q4⟩ := h4
    generalize hx5 : setI x4 0 23 0 = x5
    have g5 : ∀ q k, q ≠ 0 ∨ k ≠ 23 → x5.1 q k = x4.1 q k := fun q k h => by
      rw [← hx5]
      rcases h with h | h
      · exact rdI_ne h
      · exact rdI_nk h
    have gF : x5.1 11 0 = nI F := by rw [g5 _ _ (Or.inl (by decide)), q4 _ _ (by decide), q3 _ _ (by decide), q2 _ _ (by decide), gq _ _ (Or.inl (by decide)), eF]
    rw [gF, two_nI, nI_clamp (by omega)]
    have h7 := itP_rel (f := mcoF) (n := 2 * F) (y := x5) (P := fun k (y : XS) => y.1 0 23 = nI (fb_ct (fun c => decide (lst (RR F S l r s) c = c)) k) ∧ ∀ q k, q ≠ 0 ∨ k ≠ 23 → y.1 q k = x5.1 q k) ⟨by rw [← hx5]; exact rdI_eq, fun _ _ _ => rfl⟩ (fun k hk y hy => by
      have hp : smF y (nI k) = nI (lst (RR F S l r s) k) := by
        refine smF_eq (fun c hc d hd => ?_) (by omega) (RR_refl k)
        rw [hy.2 _ _ (Or.inl (by decide)), g5 _ _ (Or.inl (by decide))]
        exact r4 c hc d hd
      obtain ⟨hle, -⟩ := lst_lt (A := RR F S l r s) (c := k) (n := 20) (by omega) (by omega) (RR_refl k)
      unfold mcoF
      refine ⟨?_, fun q k' h => ?_⟩
      · rw [rdI_eq, hy.1, hp, fb_ct_succ]
        by_cases e : lst (RR F S l r s) k = k
        · rw [if_pos (by rw [e]), e, decide_eq_true rfl]
          exact nI_addN _ 1
        · rw [if_neg (fun z => e ((nI_inj (by omega) (by omega)).mp z)), decide_eq_false e]
          exact Int32.add_zero _
      · rcases h with h | h
        · rw [rdI_ne h]; exact hy.2 _ _ (Or.inl h)
        · rw [rdI_nk h]; exact hy.2 _ _ (Or.inr h))
    generalize itP mcoF (2 * F) x5 = x7 at h7
    obtain ⟨p1, p2⟩ := h7
    refine ⟨⟨fun c hc d hd => ?_, p1⟩, ?_⟩
    · rw [p2 _ _ (Or.inl (by decide)), g5 _ _ (Or.inl (by decide))]; exact r4 c hc d hd
    · rw [p2 _ _ (Or.inr (by decide)), g5 _ _ (Or.inr (by decide)), q4 _ _ (by decide), q3 _ _ (by decide), q2 _ _ (by decide), g22]
