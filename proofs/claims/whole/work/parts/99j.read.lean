/-! The reference's second reading, whole -/
theorem er_pos {ρ : Nat → Int32} {V : Nat → Int64} {j : Nat} (h : er ρ V j ≠ 0) : ¬ er ρ V j ≤ 0 := by
  unfold er at h ⊢
  repeat' split
  all_goals first
    | decide
    | (exfalso; simp_all)
theorem eff_6 {ρ K : Nat → Int32} {V : Nat → Int64} {j k : Nat} {w : XS} (h : k ≠ j) : (eff ρ K V j w).1 6 k = w.1 6 k := by
  unfold eff
  split
  · exact rdI_ne (by decide)
  · split
    · generalize 2 * tl ρ V 1 (V j) j + (if K (j + 1) = 11 then 1 else 0) = v
      split
      · rw [rdI_ne (by decide), rdI_ne (by decide), rdI_nk h]
      · rw [rdI_ne (by decide), rdI_nk h]
    · split
      · rw [rdI_ne (by decide), rdI_nk h]
      · split
        · exact rdI_ne (by decide)
        · split
          · rw [rdI_ne (by decide), rdI_nk h]
          · split
            · exact rdI_nk h
            · split
              · exact rdI_nk h
              · rfl
theorem p2_6 {ρ K : Nat → Int32} {V : Nat → Int64} {t : Nat} (ht : ρ t = 7 ∨ ρ t = 8) : ∀ {p : Nat}, t < p → (p2 ρ K V p).1 6 t = mnr ρ V t
  | 0, h => absurd h (Nat.not_lt_zero _)
  | p + 1, h => by
    rw [p2_1]
    by_cases e : t = p
    · subst e
      rcases ht with g | g
      · rw [mn7 g]
        unfold eff
        rw [g, if_neg (by decide), if_neg (by decide), if_neg (by decide), if_neg (by decide), if_neg (by decide), if_pos rfl, rdI_eq]
      · rw [mn8 g]
        unfold eff
        rw [g, if_neg (by decide), if_neg (by decide), if_neg (by decide), if_neg (by decide), if_neg (by decide), if_neg (by decide), if_pos rfl, rdI_eq]
    · rw [eff_6 e]; exact p2_6 ht (by omega)
theorem run2 {x w : XS} {N P : Nat} (hT : TokR x w N) (hro : RoK (w.1 5) (x.1 5) P) (hP : P < N) : ∀ (n p : Nat) (y : XS), Y2 N (x.2 7) w y p → p ≤ P → P < p + n → (∀ j, j < p → er (w.1 5) (x.2 7) j = 0) →
    ((∀ j, j < P → er (w.1 5) (x.2 7) j = 0) → ∃ y', Y2 N (x.2 7) w y' P ∧ f_X10_read_L57 n (nI P) y = f_X10_read_L111 402 0 y') ∧
    (∀ t, t < P → (∀ j, j < t → er (w.1 5) (x.2 7) j = 0) → er (w.1 5) (x.2 7) t ≠ 0 → ∃ y', (∀ q k, fr2 q k → y'.1 q k = w.1 q k) ∧ f_X10_read_L57 n (nI P) y = some (er (w.1 5) (x.2 7) t, setI y' 0 3 (w.1 3 t)))
  | 0, p, y, _, h1, h2, _ => by omega
  | n + 1, p, y, hY, hp, hn, he => by
    have hN := hT.2.1
    rw [f_X10_read_L57, hY.1]
    by_cases hpP : p = P
    · subst hpP
      rw [if_pos (Int32.le_refl _)]
      exact ⟨fun _ => ⟨y, hY, rfl⟩, fun t ht _ h => absurd (he t ht) h⟩
    · rw [if_neg (fun h => by have := (nI_leq (by omega) (by omega)).mp h; omega)]
      obtain ⟨y', e1, e2, e3, e4⟩ := step2 hT hro (show p < P by omega) hP hY
      rw [e1, ob_some1]
      dsimp only
      by_cases h0 : er (w.1 5) (x.2 7) p = 0
      · rw [if_pos h0, e2, show nI p + 1 = nI (p + 1) from nI_addN p 1]
        exact run2 hT hro hP n (p + 1) _ (e4 h0) (by omega) (by omega) (fun j hj => by
          rcases Nat.lt_or_ge j p with g | g
          · exact he j g
          · rw [show j = p by omega]; exact h0)
      · rw [if_neg h0, e2, inB_nI (show p < 401 by omega) (by decide), og_tr, nI_clamp (by omega)]
        refine ⟨fun h => absurd (h p (by omega)) h0, fun t ht hz hne => ?_⟩
        have htp : t = p := by
          rcases Nat.lt_trichotomy t p with g | g | g
          · exact absurd (he t g) hne
          · exact g
          · exact absurd (hz p g) h0
        subst htp
        exact ⟨y', e3, by rw [e3 3 t ⟨by decide, by omega, by omega, by omega⟩]⟩
/-- the names get their numbers in the code -/
theorem patch {w : XS} {V : Nat → Int64} {cf : Nat → Int32} {e o P N : Nat} (hcf : CF w V cf e o P) (he : e ≤ 800) (ho : o ≤ 400) (hP : P < N) (hN : N ≤ 401) (h14 : w.1 21 14 = nI o) {y0 : XS} (h6 : ∀ t, t < P → w.1 5 t = 7 ∨ w.1 5 t = 8 → y0.1 6 t = mnr (w.1 5) V t) :
    ∀ (n l : Nat) (y : XS), o < l + n → l ≤ o → y.1 21 14 = nI o → (∀ q k, q ≠ 29 → y.1 q k = y0.1 q k) → (∀ k, y0.1 30 k = w.1 30 k) → (∀ i, i < e → ((∃ j, j < l ∧ w.1 30 j = nI i) → y.1 29 i = cf i) ∧ ((∀ j, j < l → w.1 30 j ≠ nI i) → y.1 29 i = w.1 29 i)) →
      ∃ y', f_X10_read_L111 n (nI l) y = some (0, y') ∧ (∀ q k, q ≠ 29 → y'.1 q k = y0.1 q k) ∧ ∀ i, i < e → y'.1 29 i = cf i
  | 0, l, y, h, h2, _, _, _, _ => by omega
  | n + 1, l, y, h, h2, h3, h4, h5, h7 => by
    rw [f_X10_read_L111, h3]
    by_cases hl : l = o
    · subst hl
      rw [if_pos (Int32.le_refl _)]
      refine ⟨y, rfl, h4, fun i hi => ?_⟩
      by_cases g : ∃ j, j < l ∧ w.1 30 j = nI i
      · exact (h7 i hi).1 g
      · have g' : ∀ j, j < l → w.1 30 j ≠ nI i := fun j hj e => g ⟨j, hj, e⟩
        rw [(h7 i hi).2 g']; exact (hcf.1 i hi g').symm
    · obtain ⟨i, tk, b1, b2, b3, b4, b5, b6⟩ := hcf.2.1 l (by omega)
      have y30 : y.1 30 l = nI i := by rw [h4 30 l (by decide), h5]; exact b3
      have hnot : ∀ j, j < l → w.1 30 j ≠ nI i := fun j hj => by rw [← b3]; exact hcf.2.2 j l hj (by omega)
      have y29 : y.1 29 i = nI tk := ((h7 i b1).2 hnot).trans b4
      have y6 : y.1 6 tk = cf i := by rw [h4 6 tk (by decide), h6 tk b2 b6]; exact b5.symm
      rw [if_neg (fun h => by have := (nI_leq (by omega) (by omega)).mp h; omega), inB_nI (show l < 400 by omega) (by decide), og_tr, og_tr, nI_clamp (show l < 2 ^ 31 by omega), y30, inB_nI (show i < 800 by omega) (by decide), og_tr, nI_clamp (show i < 2 ^ 31 by omega), y29, inB_nI (show tk < 401 by omega) (by decide), og_tr, og_tr, nI_clamp (show tk < 2 ^ 31 by omega), y6, show nI l + 1 = nI (l + 1) from nI_addN l 1]
      refine patch hcf he ho hP hN h14 h6 n (l + 1) _ (by omega) (by omega) ((rdI_ne (by decide)).trans h3) (fun q k a => (rdI_ne a).trans (h4 q k a)) h5 (fun i' hi' => ?_)
      by_cases hii : i' = i
      · subst hii
        exact ⟨fun _ => rdI_eq, fun g => absurd b3 (g l (by omega))⟩
      · rw [rdI_nk hii]
        refine ⟨fun ⟨j, hj, ej⟩ => (h7 i' hi').1 ⟨j, ?_, ej⟩, fun g => (h7 i' hi').2 (fun j hj => g j (by omega))⟩
        rcases Nat.lt_or_ge j l with k | k
        · exact k
        · rw [show j = l by omega, b3] at ej
          exact absurd ((nI_inj (by omega) (by omega)).mp ej).symm hii
theorem read2_ok {N : Nat} {x w : XS} {cf : Nat → Int32} {P c e o : Nat} (h : LSt N x w cf P c e o) (h0 : w.1 21 0 = 0 ∧ w.1 21 1 = 0 ∧ w.1 21 5 = 0) (h22 : ∀ q k, 22 ≤ q → q ≤ 26 → w.1 q k = 0) (h6 : ∀ k, k < N → w.1 6 k = 0) :
    (x.1 34 5 ≠ 0 → ∃ t v, t < N ∧ x.1 34 6 = nI t ∧ ¬ x.1 34 5 ≤ 0 ∧ f_X10_read_L57 402 (nI P) (setI w 0 9 0) = some (x.1 34 5, v) ∧ v.1 0 3 = w.1 3 t ∧ (∀ q k, fr2 q k → ¬ (q = 0 ∧ k = 3) → v.1 q k = w.1 q k)) ∧
    (x.1 34 5 = 0 → ∃ F S O v, f_X10_read_L57 402 (nI P) (setI w 0 9 0) = some (0, v) ∧ LQ x w cf P c e F S O ∧ v.1 21 0 = nI F ∧ v.1 21 1 = nI S ∧ v.1 21 5 = nI O ∧ (∀ q k, 22 ≤ q → q ≤ 26 → v.1 q k = (p2 (w.1 5) (w.1 2) (x.2 7) P).1 q k) ∧ (∀ i, i < e → v.1 29 i = cf i) ∧ (∀ q k, fr2 q k → q ≠ 29 → v.1 q k = w.1 q k)) := by
  obtain ⟨hb, hc, he, ho, h216, hm⟩ := h
  have hN := hb.N
  have hY : Y2 N (x.2 7) w (setI w 0 9 0) 0 := by
    refine ⟨rdI_eq, fun q k a => by rw [rdI, if_neg a.2.2.1], ⟨?_, ?_, ?_⟩, ⟨fun q k a b => ?_, fun k hk => ?_⟩, Nat.zero_le _, Nat.zero_le _, Nat.zero_le _⟩
    · rw [rdI_ne (by decide)]; exact h0.1
    · rw [rdI_ne (by decide)]; exact h0.2.1
    · rw [rdI_ne (by decide)]; exact h0.2.2
    · rw [rdI_ne (by omega)]; exact h22 q k a b
    · rw [rdI_ne (by decide)]; exact h6 k hk
  obtain ⟨r1, r2⟩ := run2 hb.1 hb.2.2.2.2.2.2.2.2.2.2 hN.1 402 0 (setI w 0 9 0) hY (Nat.zero_le _) (by omega) (fun j hj => absurd hj (Nat.not_lt_zero _))
  refine ⟨fun h5 => ?_, fun h5 => ?_⟩
  · rcases hm with ⟨a, -⟩ | ⟨t, a1, a2, a3, a4, a5⟩
    · exact absurd a h5
    · obtain ⟨y', f1, f2⟩ := r2 t a1 a4 (by rw [a5]; exact a3)
      rw [a5] at f2
      refine ⟨t, _, by omega, a2, ?_, f2, rdI_eq, fun q k a b => ?_⟩
      · rw [← a5]; exact er_pos (by rw [a5]; exact a3)
      · rw [rdI, if_neg b]; exact f1 q k a
  · rcases hm with ⟨a, b, F, S, O, hq⟩ | ⟨t, a1, a2, a3, a4, a5⟩
    · obtain ⟨y', f1, f2⟩ := r1 b
      have hqq := hq
      obtain ⟨q1, q2, q3, q4, q5⟩ := hqq
      obtain ⟨y9, yf, ⟨c0, c1, c5⟩, ⟨pe1, pe2⟩, -⟩ := f1
      have h14 : w.1 21 14 = nI o := hb.2.2.2.2.2.2.2.1
      have y29 : ∀ k, y'.1 29 k = w.1 29 k := fun k => yf 29 k ⟨by decide, by omega, by omega, by omega⟩
      have y30 : ∀ k, y'.1 30 k = w.1 30 k := fun k => yf 30 k ⟨by decide, by omega, by omega, by omega⟩
      obtain ⟨v, v1, v2, v3⟩ := patch (y0 := y') hb.2.2.2.2.2.2.2.2.2.1 (show e ≤ 800 by omega) (show o ≤ 400 by omega) hN.1 hN.2 h14 (fun t ht hr => by rw [pe2 t (by omega)]; exact p2_6 hr ht) 402 0 y' (by omega) (Nat.zero_le _) ((yf 21 14 ⟨by decide, by omega, by omega, by omega⟩).trans h14) (fun _ _ _ => rfl) y30 (fun i hi => ⟨fun ⟨j, hj, _⟩ => absurd hj (Nat.not_lt_zero _), fun _ => y29 i⟩)
      refine ⟨F, S, O, v, f2.trans v1, hq, ?_, ?_, ?_, fun q k a b => ?_, v3, fun q k a b => ?_⟩
      · rw [v2 _ _ (by decide), c0, q1.1]
      · rw [v2 _ _ (by decide), c1, q2.1]
      · rw [v2 _ _ (by decide), c5, q3.1]
      · rw [v2 _ _ (by omega)]; exact pe1 q k a b
      · rw [v2 _ _ b]; exact yf q k a
    · exact absurd h5 a3
