/-! The tokens are alike -/
theorem same_ok {w : XS} {b : Nat → Nat} {n s t ps pt l : Nat} (hs : s < 401) (ht : t < 401) (hn : n ≤ 2000) (hl : l ≤ 10) (ws : w.1 3 s = nI ps) (wt : w.1 3 t = nI pt) (ls : w.1 4 s = nI l) (es : ps + l ≤ n) (et : pt + l ≤ n) (hz : ∀ k, k < n → b k < 256 ∧ w.1 1 k = nI (b k)) :
    ∀ (m i fuel : Nat), i + m = l → m < fuel → (∀ j, j < i → b (ps + j) = b (pt + j)) → ∃ r : Bool, f_X10_isSame_L19 fuel (nI s) (nI t) (nI i) w = some (r, w) ∧ (r = true ↔ ∀ j, j < l → b (ps + j) = b (pt + j))
  | _, _, 0, _, h, _ => absurd h (Nat.not_lt_zero _)
  | 0, i, fuel + 1, h, _, hj => by
    have hil : i = l := by omega
    subst hil
    rw [f_X10_isSame_L19, inB_nI hs (by decide), og_tr, nI_clamp (by omega), ls, if_pos (Int32.le_refl _)]
    exact ⟨true, rfl, fun _ => hj, fun _ => rfl⟩
  | m + 1, i, fuel + 1, h, hf, hj => by
    have h1 := hz (ps + i) (by omega)
    have h2 := hz (pt + i) (by omega)
    rw [f_X10_isSame_L19, inB_nI hs (by decide), og_tr, nI_clamp (show s < 2 ^ 31 by omega), ls, if_neg (fun h => by have := (nI_leq (by omega) (by omega)).mp h; omega), og_tr, ws, nI_addN, inB_nI (show ps + i < 2000 by omega) (by decide), og_tr, inB_nI ht (by decide), og_tr, nI_clamp (show t < 2 ^ 31 by omega), wt, nI_addN, inB_nI (show pt + i < 2000 by omega) (by decide), og_tr, nI_clamp (show ps + i < 2 ^ 31 by omega), nI_clamp (show pt + i < 2 ^ 31 by omega), h1.2, h2.2, show nI i + 1 = nI (i + 1) from nI_addN i 1]
    by_cases e : b (ps + i) = b (pt + i)
    · rw [if_pos (by rw [e])]
      exact same_ok hs ht hn hl ws wt ls es et hz m (i + 1) fuel (by omega) (by omega) (fun j hj' => by
        rcases Nat.lt_or_ge j i with g | g
        · exact hj j g
        · rw [show j = i by omega]; exact e)
    · rw [if_neg (fun q => e ((nI_inj (by omega) (by omega)).mp q))]
      exact ⟨false, rfl, ⟨fun g => (by cases g), fun g => absurd (g i (by omega)) e⟩⟩
theorem nI_10 (a c : Nat) (h : 48 ≤ c) : 10 * nI a + nI c - 48 = nI (a * 10 + (c - 48)) := by
  have e1 : 10 * nI a = nI (10 * a) := (Int32.ofNat_mul 10 a).symm
  rw [e1, nI_addN, show 10 * a + c = a * 10 + (c - 48) + 48 by omega, ← nI_addN (a * 10 + (c - 48)) 48]
  exact Int32.add_sub_cancel _ _
theorem numat_ok {w : XS} {b : Nat → Nat} {n t pt l : Nat} (ht : t < 401) (hn : n ≤ 2000) (hl : l ≤ 6) (wt : w.1 3 t = nI pt) (ls : w.1 4 t = nI l) (et : pt + l ≤ n) (hz : ∀ k, k < n → b k < 256 ∧ w.1 1 k = nI (b k)) (hd : ∀ i, i < l → digB (nI (b (pt + i))) = true) :
    ∀ (m i fuel : Nat), i + m = l → m < fuel → f_X10_numberAt_L4 fuel (nI t) (nI (nb b pt i)) (nI i) w = some (nI (nb b pt l), w)
  | _, _, 0, _, h => absurd h (Nat.not_lt_zero _)
  | 0, i, fuel + 1, h, _ => by
    have hil : i = l := by omega
    subst hil
    rw [f_X10_numberAt_L4, inB_nI ht (by decide), og_tr, nI_clamp (by omega), ls, if_pos (Int32.le_refl _)]
  | m + 1, i, fuel + 1, h, hf => by
    have h1 := hz (pt + i) (by omega)
    rw [f_X10_numberAt_L4, inB_nI ht (by decide), og_tr, nI_clamp (show t < 2 ^ 31 by omega), ls, if_neg (fun h => by have := (nI_leq (by omega) (by omega)).mp h; omega), og_tr, wt, nI_addN, inB_nI (show pt + i < 2000 by omega) (by decide), og_tr, nI_clamp (show pt + i < 2 ^ 31 by omega), h1.2, nI_10 _ _ (dig_rng _ h1.1 (hd i (by omega))).1, show nI i + 1 = nI (i + 1) from nI_addN i 1]
    exact numat_ok ht hn hl wt ls et hz hd m (i + 1) fuel (by omega) (by omega)
theorem tok_ok {x z : XS} (hT : TapR x z) (hky : ∀ j, j < 27 → x.2 4 j = Int64.ofNat (pk (kb j) 0 (txB j).length)) :
    ∃ z' N, f_X10_cut z = some z' ∧ TokR (scanF x) z' N ∧ (∀ t, t < N → z'.1 5 t = 0 ∧ z'.1 6 t = 0) ∧ (∀ i k, i ≠ 3 → i ≠ 5 → i ≠ 6 → (scanF x).1 i k = x.1 i k) ∧ (∀ i k, i ≠ 3 → i ≠ 7 → (scanF x).2 i k = x.2 i k) ∧ ∀ i k, ¬ (2 ≤ i ∧ i ≤ 6) → z'.1 i k = z.1 i k := by
  obtain ⟨n, b, hB⟩ := TB_of hT
  have hn := hB.1
  have hB0 : TB (setI (setI x 3 4 0) 3 5 0) z n b := ⟨hn, by rw [rdI_ne (by decide), rdI_ne (by decide)]; exact hB.2.1, hB.2.2.1, fun k hk => by rw [rdI_ne (by decide), rdI_ne (by decide)]; exact hB.2.2.2 k hk⟩
  obtain ⟨z', t', e1, e2, e3, e4, e5, e6⟩ := scan_cut hB0 hky 400 0 0 (setI (setI x 3 4 0) 3 5 0) z 263 402 2100 (by omega) (by omega) (by omega) (Nat.zero_le _) (by decide) (by decide) (by rw [rdI_nk (by decide), rdI_eq]; rfl) rdI_eq ⟨fun _ _ _ _ _ => rfl, fun _ _ _ _ => rfl, fun _ _ _ => rfl⟩ (fun j hj => absurd hj (Nat.not_lt_zero _))
  have hsc : scanL 402 263 (setI (setI x 3 4 0) 3 5 0) = scanF x := rfl
  rw [hsc] at e3 e4 e5 e6
  have hcut : f_X10_cut z = some z' := e1
  obtain ⟨F1, F2, F3⟩ := e4
  have lk : (scanF x).1 5 t' = 260 ∨ (scanF x).1 5 t' = 261 := by rcases e6.1 with g | g; exact Or.inl g.1; exact Or.inr g.1
  have tf : ∀ j, j < t' + 1 → (scanF x).1 5 j ≠ 260 → (scanF x).1 5 j ≠ 261 → TF b n (scanF x) z' j := fun j hj g1 g2 => by
    rcases Nat.lt_or_ge j t' with g | g
    · exact e5 j g
    · have : j = t' := by omega
      subst this
      exact absurd lk (fun h => h.elim g1 g2)
  have tape : ∀ w, STok z' w → ∀ k, k < n → b k < 256 ∧ w.1 1 k = nI (b k) := fun w hw k hk => ⟨(hB.2.2.2 k hk).1, by rw [hw 1 k (by decide) (by decide), F3 1 k (by omega)]; exact (hB.2.2.2 k hk).2.2⟩
  refine ⟨z', t' + 1, hcut, ⟨by omega, by omega, e3, fun t ht => ?_, fun t ht => ?_, fun s t hs ht k1 k2 w hw => ?_, fun t ht k1 w hw => ?_⟩, fun t ht => ?_, fun i k a c d => ?_, fun i k a c => ?_, F3⟩
  · rcases Nat.lt_or_ge t t' with g | g
    · exact ⟨(e5 t g).1, (e5 t g).2.2.2.1⟩
    · have : t = t' := by omega
      subst this
      refine ⟨?_, e6.2.1⟩
      rcases e6.1 with ⟨a, c⟩ | ⟨a, c⟩ <;> rw [a, c] <;> decide
  · rcases Nat.lt_or_ge t t' with g | g
    · exact ⟨fun _ => ⟨(e5 t g).2.1, (e5 t g).2.2.1⟩, fun _ => by omega⟩
    · have : t = t' := by omega
      subst this
      exact ⟨fun h => absurd h (by omega), fun h => absurd lk (fun k => k.elim h.1 h.2)⟩
  · obtain ⟨-, -, -, -, -, -, ps, l1, a1, a2, a3, a4, -⟩ := tf s hs (by rw [k1]; decide) (by rw [k1]; decide)
    obtain ⟨-, -, -, -, -, -, pt, l2, c1, c2, c3, c4, -⟩ := tf t ht (by rw [k2]; decide) (by rw [k2]; decide)
    obtain ⟨a5, a6, a7⟩ := a4 k1
    obtain ⟨c5, c6, c7⟩ := c4 k2
    have pe := pk64 (b := b) (c := b) (s := ps) (t := pt) a5 c5 (fun i hi => ⟨(hB.2.2.2 _ (by omega)).1, a7 i hi⟩) (fun i hi => ⟨(hB.2.2.2 _ (by omega)).1, c7 i hi⟩)
    have ws : w.1 3 s = nI ps := (hw 3 s (by decide) (by decide)).trans a1
    have wt : w.1 3 t = nI pt := (hw 3 t (by decide) (by decide)).trans c1
    have ls : w.1 4 s = nI l1 := (hw 4 s (by decide) (by decide)).trans a2
    have lt : w.1 4 t = nI l2 := (hw 4 t (by decide) (by decide)).trans c2
    unfold f_X10_isSame
    rw [inB_nI (show s < 401 by omega) (by decide), og_tr, inB_nI (show t < 401 by omega) (by decide), og_tr, nI_clamp (by omega), nI_clamp (by omega), ls, lt, a6, c6]
    by_cases hl : l1 = l2
    · subst hl
      rw [if_pos rfl]
      obtain ⟨r, r1, r2⟩ := same_ok (s := s) (t := t) (by omega) (by omega) hn a5 ws wt ls a3 c3 (tape w hw) l1 0 402 (by omega) (by omega) (fun j hj => absurd hj (Nat.not_lt_zero _))
      have r1' : f_X10_isSame_L19 402 (nI s) (nI t) 0 w = some (r, w) := r1
      have hr : r = decide (Int64.ofNat (pk b ps l1) = Int64.ofNat (pk b pt l1)) := Bool.eq_iff_iff.mpr ⟨fun h => decide_eq_true (pe.mpr ⟨rfl, r2.mp h⟩), fun h => r2.mpr (pe.mp (of_decide_eq_true h)).2⟩
      rw [r1', hr]
    · rw [if_neg (fun q => hl ((nI_inj (by omega) (by omega)).mp q)), decide_eq_false (fun h => hl (pe.mp h).1)]
  · obtain ⟨-, -, -, -, -, -, pt, l2, c1, c2, c3, -, c4⟩ := tf t ht (by rw [k1]; decide) (by rw [k1]; decide)
    obtain ⟨c5, c6, c7⟩ := c4 k1
    have wt : w.1 3 t = nI pt := (hw 3 t (by decide) (by decide)).trans c1
    have lt : w.1 4 t = nI l2 := (hw 4 t (by decide) (by decide)).trans c2
    have e := numat_ok (t := t) (by omega) hn c5 wt lt c3 (tape w hw) c7 l2 0 402 (by omega) (by omega)
    have e' : f_X10_numberAt (nI t) w = some (nI (nb b pt l2), w) := e
    rw [e', c6, Int64.toInt32_ofNat']; rfl
  · rcases Nat.lt_or_ge t t' with g | g
    · exact ⟨(e5 t g).2.2.2.2.1, (e5 t g).2.2.2.2.2.1⟩
    · have : t = t' := by omega
      subst this
      exact e6.2.2
  · rw [F1 i k (by omega) c d, rdI_ne a, rdI_ne a]
  · exact F2 i k (by omega) c
