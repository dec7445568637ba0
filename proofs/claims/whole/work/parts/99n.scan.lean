/-! All tokens, in both -/
theorem skip_run {x0 z0 : XS} {n : Nat} {b : Nat → Nat} (hT : TB x0 z0 n b) : ∀ (m p : Nat) (x : XS), p ≤ n → n - p = m → x.1 1 1 = x0.1 1 1 → (∀ j, x.1 2 j = x0.1 2 j) → x.1 3 5 = nI p →
    ∃ q, p ≤ q ∧ q ≤ n ∧ bv b n q ≠ 32 ∧ bv b n q ≠ 10 ∧ (∀ j, p ≤ j → j < q → bv b n j = 32 ∨ bv b n j = 10) ∧ (∀ i k, ¬ (i = 3 ∧ k = 5) → (skipL m x).1 i k = x.1 i k) ∧ (skipL m x).1 3 5 = nI q ∧ (skipL m x).2 = x.2
  | 0, p, x, hp, hm, _, _, x3 => by
    have : bv b n p = -1 := bv_ge (by omega)
    exact ⟨p, Nat.le_refl _, hp, by rw [this]; decide, by rw [this]; decide, fun j a b => by omega, fun _ _ _ => rfl, x3, rfl⟩
  | m + 1, p, x, hp, hm, x1, x2, x3 => by
    have hn := hT.1
    have hat := at_ok hT (show p < 2 ^ 31 by omega) x1 x2
    have e : ¬ x.1 1 1 ≤ x.1 3 5 := by
      rw [x1, hT.2.1, x3]
      exact fun q => by have := (nI_leq (by omega) (by omega)).mp q; omega
    have go : bv b n p = 32 ∨ bv b n p = 10 → ∃ q, p ≤ q ∧ q ≤ n ∧ bv b n q ≠ 32 ∧ bv b n q ≠ 10 ∧ (∀ j, p ≤ j → j < q → bv b n j = 32 ∨ bv b n j = 10) ∧ (∀ i k, ¬ (i = 3 ∧ k = 5) → (skipL m (setI x 3 5 (nI (p + 1)))).1 i k = x.1 i k) ∧ (skipL m (setI x 3 5 (nI (p + 1)))).1 3 5 = nI q ∧ (skipL m (setI x 3 5 (nI (p + 1)))).2 = x.2 := by
      intro hb
      obtain ⟨q, a1, a2, a3, a4, a5, a6, a7, a8⟩ := skip_run hT m (p + 1) (setI x 3 5 (nI (p + 1))) (by omega) (by omega) ((rdI_ne (by decide)).trans x1) (fun j => (rdI_ne (by decide)).trans (x2 j)) rdI_eq
      refine ⟨q, by omega, a2, a3, a4, fun j h1 h2 => ?_, fun i k g => (a6 i k g).trans (by rw [rdI, if_neg g]), a7, a8⟩
      rcases Nat.lt_or_ge p j with h | h
      · exact a5 j h h2
      · rw [show j = p by omega]; exact hb
    rw [skipL, if_neg e, x3, hat, show nI p + 1 = nI (p + 1) from nI_addN p 1]
    by_cases h1 : bv b n p = 32
    · rw [if_pos h1]; exact go (Or.inl h1)
    · rw [if_neg h1]
      by_cases h2 : bv b n p = 10
      · rw [if_pos h2]; exact go (Or.inr h2)
      · rw [if_neg h2]
        exact ⟨p, Nat.le_refl _, hp, h1, h2, fun j a b => by omega, fun _ _ _ => rfl, x3, rfl⟩
theorem cut_skip {x0 z0 : XS} {n : Nat} {b : Nat → Nat} (hT : TB x0 z0 n b) {z : XS} (z1 : z.1 0 2 = z0.1 0 2) (z2 : ∀ j, z.1 1 j = z0.1 1 j) (k4 : Int32 → Int32 → XS → Option XS) (l2 : Int32) : ∀ (m p fuel : Nat), (∀ j, p ≤ j → j < p + m → bv b n j = 32 ∨ bv b n j = 10) → p + m < 2 ^ 31 → f_X10_cut_L11 k4 (fuel + m) (nI p) l2 z = f_X10_cut_L11 k4 fuel (nI (p + m)) l2 z
  | 0, _, _, _, _ => rfl
  | m + 1, p, fuel, h, hp => by
    have hb := by_ok hT (show p < 2 ^ 31 by omega) z1 z2
    have ih := cut_skip hT z1 z2 k4 l2 m (p + 1) fuel (fun j a b => h j (by omega) (by omega)) (by omega)
    rw [show p + 1 + m = p + (m + 1) by omega] at ih
    rw [show fuel + (m + 1) = fuel + m + 1 from rfl, f_X10_cut_L11, hb, ob_some1, show nI p + 1 = nI (p + 1) from nI_addN p 1]
    dsimp only
    rcases h p (Nat.le_refl _) (by omega) with g | g
    · rw [if_pos g]; exact ih
    · rw [if_neg (by rw [g]; decide), hb, ob_some1, if_pos g]; exact ih
theorem cut_body {x0 z0 : XS} {n : Nat} {b : Nat → Nat} (hT : TB x0 z0 n b) {z : XS} (z1 : z.1 0 2 = z0.1 0 2) (z2 : ∀ j, z.1 1 j = z0.1 1 j) (k4 : Int32 → Int32 → XS → Option XS) {t q fuel : Nat} (ht : t < 401) (hq : q < 2 ^ 31) (h1 : bv b n q ≠ 32) (h2 : bv b n q ≠ 10) {r : Int32} {w : XS} (hk : f_X10_kindAt (nI q) (nI t) (setI (setI (setI z 3 t (nI q)) 5 t 0) 6 t 0) = some (r, w)) :
    (t < 400 → f_X10_cut_L11 k4 (fuel + 1) (nI q) (nI t) z = if r < 900 then k4 (nI q + w.1 4 t) (nI (t + 1)) (setI w 2 t r) else some (setI w 2 t r)) ∧
    (t = 400 → f_X10_cut_L11 k4 (fuel + 1) (nI q) (nI t) z = if r = 900 then some (setI w 2 t 900) else some (setI (setI w 2 t r) 2 t 901)) := by
  have hb := by_ok hT hq z1 z2
  have i1 : inB (nI t) 401 = true := inB_nI ht (by decide)
  have c1 : (nI t).toNatClampNeg = t := nI_clamp (by omega)
  have c2 : nI t + 1 = nI (t + 1) := nI_addN t 1
  have e4 : (setI w 2 t r).1 4 t = w.1 4 t := rdI_ne (by decide)
  have e2 : (setI w 2 t r).1 2 t = r := rdI_eq
  have e3 : (setI (setI w 2 t r) 2 t 901).1 2 t = 901 := rdI_eq
  rw [f_X10_cut_L11, hb, ob_some1]
  dsimp only
  rw [if_neg h1, hb, ob_some1]
  dsimp only
  rw [if_neg h2]
  simp only [i1, og_tr, c1, hk, ob_some1, c2, e2, e3, e4]
  refine ⟨fun h => ?_, fun h => ?_⟩
  · rw [if_neg (fun (g : nI t = 400) => by have := (nI_inj (b := 400) (by omega) (by omega)).mp g; omega)]
  · rw [if_pos (show nI t = 400 by rw [h]; rfl)]
    by_cases g : r = 900
    · rw [if_pos g, if_pos g, g, if_neg (by decide)]
    · rw [if_neg g, if_neg g, if_neg (by decide)]
def TF (b : Nat → Nat) (n : Nat) (x z : XS) (j : Nat) : Prop := (x.1 5 j, z.1 2 j) ∈ KM ∧ x.1 5 j ≠ 260 ∧ x.1 5 j ≠ 261 ∧ x.1 6 j = z.1 3 j ∧ z.1 5 j = 0 ∧ z.1 6 j = 0 ∧ ∃ s len, z.1 3 j = nI s ∧ z.1 4 j = nI len ∧ s + len ≤ n ∧ (x.1 5 j = 258 → len ≤ 10 ∧ x.2 7 j = Int64.ofNat (pk b s len) ∧ ∀ i, i < len → al (b (s + i)) = true) ∧ (x.1 5 j = 259 → len ≤ 6 ∧ x.2 7 j = Int64.ofNat (nb b s len) ∧ ∀ i, i < len → digB (nI (b (s + i))) = true)
def LaT (x z : XS) (j : Nat) : Prop := ((x.1 5 j = 260 ∧ z.1 2 j = 900) ∨ (x.1 5 j = 261 ∧ z.1 2 j = 901)) ∧ x.1 6 j = z.1 3 j ∧ z.1 5 j = 0 ∧ z.1 6 j = 0
def FT (x0 z0 x z : XS) : Prop := (∀ i k, ¬ (i = 3 ∧ (k = 4 ∨ k = 5)) → i ≠ 5 → i ≠ 6 → x.1 i k = x0.1 i k) ∧ (∀ i k, ¬ (i = 3 ∧ k = 6) → i ≠ 7 → x.2 i k = x0.2 i k) ∧ ∀ i k, ¬ (2 ≤ i ∧ i ≤ 6) → z.1 i k = z0.1 i k
theorem TF_of {b : Nat → Nat} {n : Nat} {x z y w : XS} {j : Nat} (h5 : y.1 5 j = x.1 5 j) (h6 : y.1 6 j = x.1 6 j) (h7 : y.2 7 j = x.2 7 j) (hw : ∀ i, 2 ≤ i → i ≤ 6 → w.1 i j = z.1 i j) (h : TF b n x z j) : TF b n y w j := by
  unfold TF at h ⊢
  rw [h5, h6, h7, hw 2 (by decide) (by decide), hw 3 (by decide) (by decide), hw 4 (by decide) (by decide), hw 5 (by decide) (by decide), hw 6 (by decide) (by decide)]
  exact h
theorem scan_end {kd : Int32} (h : kd = 260 ∨ kd = 261) : ∀ (n : Nat) (x : XS), scanL n kd x = x
  | 0, _ => rfl
  | n + 1, x => by
    rw [scanL]
    split
    · rfl
    · split
      · rfl
      · split
        · rfl
        · next a b => exact absurd h (fun g => g.elim a b)
theorem km_261 {r : Int32} (h : ((261 : Int32), r) ∈ KM) : r = 901 := by
  have key : ∀ p ∈ KM, p.1 = 261 → p.2 = 901 := by decide +kernel
  exact key _ h rfl
theorem scan_one {x0 z0 : XS} {n : Nat} {b : Nat → Nat} (hT : TB x0 z0 n b) (hky : ∀ j, j < 27 → x0.2 4 j = Int64.ofNat (pk (kb j) 0 (txB j).length)) {t p : Nat} {x z : XS} {kd : Int32} (ht : t < 401) (hp : p ≤ n) (k0 : kd ≠ 260) (k1 : kd ≠ 261) (x34 : x.1 3 4 = nI t) (x35 : x.1 3 5 = nI p) (hF : FT x0 z0 x z) :
    ∃ x2 z2, (∀ f, scanL (f + 1) kd x = scanL f (x2.1 5 t) x2) ∧ x2.1 3 4 = nI (t + 1) ∧ FT x0 z0 x2 z2 ∧ (∀ j, j < t → TF b n x z j → TF b n x2 z2 j) ∧
      ((LaT x2 z2 t ∧ ∀ g, f_X10_cut_L4 (g + 1) (nI p) (nI t) z = some z2) ∨ (t < 400 ∧ x2.1 5 t ≠ 260 ∧ x2.1 5 t ≠ 261 ∧ TF b n x2 z2 t ∧ ∃ p', p' ≤ n ∧ x2.1 3 5 = nI p' ∧ ∀ g, f_X10_cut_L4 (g + 1) (nI p) (nI t) z = f_X10_cut_L4 g (nI p') (nI (t + 1)) z2)) := by
  obtain ⟨F1, F2, F3⟩ := hF
  have hn := hT.1
  have x11 : x.1 1 1 = x0.1 1 1 := F1 1 1 (by omega) (by decide) (by decide)
  have x22 : ∀ j, x.1 2 j = x0.1 2 j := fun j => F1 2 j (by omega) (by decide) (by decide)
  have hleft : leftN x = n - p := by
    unfold leftN
    rw [x11, hT.2.1, x35, nI_toInt (by omega), nI_toInt (by omega)]; omega
  obtain ⟨q, a1, a2, a3, a4, a5, a6, a7, a8⟩ := skip_run hT (n - p) p x hp rfl x11 x22 x35
  have hsk : skipF x = skipL (n - p) x := by unfold skipF; rw [hleft]
  have hcut : ∀ k4, f_X10_cut_L11 k4 2100 (nI p) (nI t) z = f_X10_cut_L11 k4 (2099 - (q - p) + 1) (nI q) (nI t) z := fun k4 => by
    have := cut_skip hT (z := z) (F3 0 2 (by omega)) (fun j => F3 1 j (by omega)) k4 (nI t) (q - p) p (2099 - (q - p) + 1) (fun j h1 h2 => a5 j h1 (by omega)) (by omega)
    rw [show 2099 - (q - p) + 1 + (q - p) = 2100 by omega, show p + (q - p) = q by omega] at this
    exact this
  have hL4 : ∀ g, f_X10_cut_L4 (g + 1) (nI p) (nI t) z = f_X10_cut_L11 (f_X10_cut_L4 g) (2099 - (q - p) + 1) (nI q) (nI t) z := fun g => by
    rw [f_X10_cut_L4, if_neg (fun (h : (400 : Int32) < nI t) => by have := (nI_gt (a := 400) (by omega) (by omega)).mp h; omega)]
    exact hcut _
  generalize hXd : skipL (n - p) x = x1 at *
  have hX : ∀ i k, ¬ (i = 3 ∧ k = 5) → i ≠ 6 → (setL (setI x1 6 t (nI q)) 3 6 0).1 i k = x.1 i k := fun i k g h => (rdI_ne h : (setI x1 6 t (nI q)).1 i k = _).trans (a6 i k g)
  have hX35 : (setL (setI x1 6 t (nI q)) 3 6 0).1 3 5 = nI q := (rdI_ne (by decide) : (setI x1 6 t (nI q)).1 3 5 = _).trans a7
  have hX6t : (setL (setI x1 6 t (nI q)) 3 6 0).1 6 t = nI q := (rdI_eq : (setI x1 6 t (nI q)).1 6 t = _)
  have hX6 : ∀ j, j ≠ t → (setL (setI x1 6 t (nI q)) 3 6 0).1 6 j = x.1 6 j := fun j hj => (rdI_nk hj : (setI x1 6 t (nI q)).1 6 j = _).trans (a6 6 j (by omega))
  have hX2 : ∀ i k, ¬ (i = 3 ∧ k = 6) → (setL (setI x1 6 t (nI q)) 3 6 0).2 i k = x.2 i k := fun i k g => by
    have e : (setI x1 6 t (nI q)).2 i k = x.2 i k := by show x1.2 i k = _; rw [a8]
    by_cases hi : i = 3
    · exact (rdL_nk (fun hk => g ⟨hi, hk⟩)).trans e
    · exact (rdL_ne hi).trans e
  have hX36 : (setL (setI x1 6 t (nI q)) 3 6 0).2 3 6 = 0 := rdL_eq
  have hscan : ∀ f, scanL (f + 1) kd x = scanL f (tokU (setL (setI x1 6 t (nI q)) 3 6 0)).1 (setI (setL (setI (tokU (setL (setI x1 6 t (nI q)) 3 6 0)).2 5 ((tokU (setL (setI x1 6 t (nI q)) 3 6 0)).2.1 3 4).toNatClampNeg (tokU (setL (setI x1 6 t (nI q)) 3 6 0)).1) 7 ((tokU (setL (setI x1 6 t (nI q)) 3 6 0)).2.1 3 4).toNatClampNeg ((tokU (setL (setI x1 6 t (nI q)) 3 6 0)).2.2 3 6)) 3 4 ((tokU (setL (setI x1 6 t (nI q)) 3 6 0)).2.1 3 4 + 1)) := by
    intro f
    rw [scanL, if_neg (fun h => by rw [x34] at h; have := (nI_leq (by omega) (by omega)).mp h; omega), if_neg k0, if_neg k1]
    dsimp only
    rw [hsk, a6 3 4 (by omega), x34, a7, nI_clamp (by omega)]
    rfl
  generalize setL (setI x1 6 t (nI q)) 3 6 0 = X at *
  have hZ : ∀ i k, i ≠ 3 → i ≠ 5 → i ≠ 6 → (setI (setI (setI z 3 t (nI q)) 5 t 0) 6 t 0).1 i k = z.1 i k := fun i k g1 g2 g3 => by rw [rdI_ne g3, rdI_ne g2, rdI_ne g1]
  have hZj : ∀ i j, j ≠ t → (setI (setI (setI z 3 t (nI q)) 5 t 0) 6 t 0).1 i j = z.1 i j := fun i j g => by rw [rdI_nk g, rdI_nk g, rdI_nk g]
  have hZ3 : (setI (setI (setI z 3 t (nI q)) 5 t 0) 6 t 0).1 3 t = nI q := by rw [rdI_ne (by decide), rdI_ne (by decide), rdI_eq]
  have hZ5 : (setI (setI (setI z 3 t (nI q)) 5 t 0) 6 t 0).1 5 t = 0 := by rw [rdI_ne (by decide), rdI_eq]
  have hZ6 : (setI (setI (setI z 3 t (nI q)) 5 t 0) 6 t 0).1 6 t = 0 := rdI_eq
  obtain ⟨r, w, e1, e2, e3, e4⟩ := tok_both hT ht a2 (x := X) (z := setI (setI (setI z 3 t (nI q)) 5 t 0) 6 t 0) ((hX 1 1 (by omega) (by decide)).trans x11) (fun j => (hX 2 j (by omega) (by decide)).trans (x22 j)) hX35 ((hX 3 4 (by omega) (by decide)).trans x34) hX36 (fun j hj => by rw [hX2 4 j (by omega), F2 4 j (by omega) (by decide)]; exact hky j hj) ((hZ 0 2 (by decide) (by decide) (by decide)).trans (F3 0 2 (by omega))) (fun j => (hZ 1 j (by decide) (by decide) (by decide)).trans (F3 1 j (by omega)))
  have hbody := fun k4 => cut_body hT (F3 0 2 (by omega)) (fun j => F3 1 j (by omega)) k4 (fuel := 2099 - (q - p)) ht (show q < 2 ^ 31 by omega) a3 a4 e1
  have hY : (∀ i k, ¬ (i = 3 ∧ k = 5) → (tokU X).2.1 i k = X.1 i k) ∧ (∀ i k, ¬ (i = 3 ∧ k = 6) → (tokU X).2.2 i k = X.2 i k) := by
    rcases Nat.lt_or_ge q n with hqn | hqn
    · obtain ⟨f1, f2, f3⟩ := e4 hqn
      rcases Nat.lt_or_ge t 400 with g | g
      · obtain ⟨-, -, q', v, ⟨n1, n2, n3, n4⟩, -⟩ := f3 g
        exact ⟨n1, n3⟩
      · rw [f2 (by omega)]; exact ⟨fun _ _ _ => rfl, fun _ _ _ => rfl⟩
    · rw [(e3 (by omega)).1]; exact ⟨fun _ _ _ => rfl, fun _ _ _ => rfl⟩
  have hsc : ∀ f, scanL (f + 1) kd x = scanL f (tokU X).1 (setI (setL (setI (tokU X).2 5 t (tokU X).1) 7 t ((tokU X).2.2 3 6)) 3 4 (nI (t + 1))) := by
    intro f
    rw [hscan f, hY.1 3 4 (by omega), hX 3 4 (by omega) (by decide), x34, nI_clamp (by omega), show nI t + 1 = nI (t + 1) from nI_addN t 1]
  clear hscan hXd hsk hcut
  generalize tokU X = T at *
  obtain ⟨a, y⟩ := T
  dsimp only at hY hsc
  obtain ⟨Y1, Y2'⟩ := hY
  have k5 : (setI (setL (setI y 5 t a) 7 t (y.2 3 6)) 3 4 (nI (t + 1))).1 5 t = a := by rw [rdI_ne (by decide)]; exact (rdI_eq : (setI y 5 t a).1 5 t = a)
  have kk : ∀ i k, ¬ (i = 3 ∧ k = 4) → ¬ (i = 5 ∧ k = t) → (setI (setL (setI y 5 t a) 7 t (y.2 3 6)) 3 4 (nI (t + 1))).1 i k = y.1 i k := fun i k g h => by
    rw [rdI, if_neg g]
    show (setI y 5 t a).1 i k = _
    rw [rdI, if_neg h]
  have k7 : (setI (setL (setI y 5 t a) 7 t (y.2 3 6)) 3 4 (nI (t + 1))).2 7 t = y.2 3 6 := (rdL_eq : (setL (setI y 5 t a) 7 t (y.2 3 6)).2 7 t = _)
  have kl : ∀ i k, ¬ (i = 7 ∧ k = t) → (setI (setL (setI y 5 t a) 7 t (y.2 3 6)) 3 4 (nI (t + 1))).2 i k = y.2 i k := fun i k g => by
    show (setL (setI y 5 t a) 7 t (y.2 3 6)).2 i k = _
    by_cases hi : i = 7
    · exact rdL_nk (fun hk => g ⟨hi, hk⟩)
    · exact rdL_ne hi
  have k34 : (setI (setL (setI y 5 t a) 7 t (y.2 3 6)) 3 4 (nI (t + 1))).1 3 4 = nI (t + 1) := rdI_eq
  generalize setI (setL (setI y 5 t a) 7 t (y.2 3 6)) 3 4 (nI (t + 1)) = x2 at *
  have main : ∀ z2 : XS, (∀ i k, ¬ (i = 2 ∧ k = t) → z2.1 i k = w.1 i k) → FT x0 z0 x2 z2 ∧ (∀ j, j < t → TF b n x z j → TF b n x2 z2 j) ∧ x2.1 6 t = z2.1 3 t ∧ z2.1 3 t = nI q ∧ z2.1 5 t = 0 ∧ z2.1 6 t = 0 ∧ z2.1 4 t = w.1 4 t := by
    intro z2 hz
    have z3 : z2.1 3 t = nI q := by rw [hz 3 t (by omega), e2 3 t (by omega)]; exact hZ3
    refine ⟨⟨fun i k g h5 h6 => ?_, fun i k g h7 => ?_, fun i k g => ?_⟩, fun j hj hTF => ?_, ?_, z3, ?_, ?_, hz 4 t (by omega)⟩
    · rw [kk i k (by omega) (by omega), Y1 i k (by omega), hX i k (by omega) h6]; exact F1 i k g h5 h6
    · rw [kl i k (by omega), Y2' i k g, hX2 i k g]; exact F2 i k g h7
    · rw [hz i k (by omega), e2 i k (by omega), hZ i k (by omega) (by omega) (by omega)]; exact F3 i k g
    · refine TF_of ?_ ?_ ?_ (fun i g1 g2 => ?_) hTF
      · rw [kk 5 j (by omega) (by omega), Y1 5 j (by omega), hX 5 j (by omega) (by decide)]
      · rw [kk 6 j (by omega) (by omega), Y1 6 j (by omega)]; exact hX6 j (by omega)
      · rw [kl 7 j (by omega), Y2' 7 j (by omega), hX2 7 j (by omega)]
      · rw [hz i j (by omega), e2 i j (by omega)]; exact hZj i j (by omega)
    · rw [z3, kk 6 t (by omega) (by omega), Y1 6 t (by omega)]; exact hX6t
    · rw [hz 5 t (by omega), e2 5 t (by omega)]; exact hZ5
    · rw [hz 6 t (by omega), e2 6 t (by omega)]; exact hZ6
  have set2 : ∀ v i k, ¬ (i = 2 ∧ k = t) → (setI w 2 t v).1 i k = w.1 i k := fun v i k g => by rw [rdI, if_neg g]
  have endd : ∀ z2 : XS, (∀ i k, ¬ (i = 2 ∧ k = t) → z2.1 i k = w.1 i k) → ((a = 260 ∧ z2.1 2 t = 900) ∨ (a = 261 ∧ z2.1 2 t = 901)) → (∀ g, f_X10_cut_L4 (g + 1) (nI p) (nI t) z = some z2) →
      ∃ x2 z2, (∀ f, scanL (f + 1) kd x = scanL f (x2.1 5 t) x2) ∧ x2.1 3 4 = nI (t + 1) ∧ FT x0 z0 x2 z2 ∧ (∀ j, j < t → TF b n x z j → TF b n x2 z2 j) ∧
      ((LaT x2 z2 t ∧ ∀ g, f_X10_cut_L4 (g + 1) (nI p) (nI t) z = some z2) ∨ (t < 400 ∧ x2.1 5 t ≠ 260 ∧ x2.1 5 t ≠ 261 ∧ TF b n x2 z2 t ∧ ∃ p', p' ≤ n ∧ x2.1 3 5 = nI p' ∧ ∀ g, f_X10_cut_L4 (g + 1) (nI p) (nI t) z = f_X10_cut_L4 g (nI p') (nI (t + 1)) z2)) := by
    intro z2 hz hk hc
    obtain ⟨m1, m2, m3, m4, m5, m6, m7⟩ := main z2 hz
    exact ⟨x2, z2, fun f => by rw [k5]; exact hsc f, k34, m1, m2, Or.inl ⟨⟨by rw [k5]; exact hk, m3, m5, m6⟩, hc⟩⟩
  rcases Nat.lt_or_ge q n with hqn | hqn
  · obtain ⟨f1, f2, f3⟩ := e4 hqn
    rcases Nat.lt_or_ge t 400 with g | g
    · obtain ⟨t1, t2, q', v, hN, t3⟩ := f3 g
      dsimp only at t1 t2 t3 hN
      by_cases h261 : a = 261
      · have hr : r = 901 := km_261 (by rw [← h261]; exact t1)
        refine endd (setI w 2 t r) (set2 r) (Or.inr ⟨h261, by rw [rdI_eq]; exact hr⟩) (fun g' => ?_)
        rw [hL4, (hbody _).1 g, if_neg (by rw [hr]; decide)]
      · obtain ⟨c1, len, c2, c3, c4, c5, c6, c7⟩ := t3 h261
        obtain ⟨m1, m2, m3, m4, m5, m6, m7⟩ := main (setI w 2 t r) (set2 r)
        obtain ⟨n1, n2, n3, n4⟩ := hN
        have k7' : x2.2 7 t = v := by rw [k7]; exact n4
        refine ⟨x2, setI w 2 t r, fun f => by rw [k5]; exact hsc f, k34, m1, m2, Or.inr ⟨g, by rw [k5]; exact t2, by rw [k5]; exact h261, ⟨by rw [k5, rdI_eq]; exact t1, by rw [k5]; exact t2, by rw [k5]; exact h261, m3, m5, m6, q, len, m4, m7.trans c2, c5, fun h => ?_, fun h => ?_⟩, q + len, c5, ?_, fun g' => ?_⟩⟩
        · rw [k5] at h; obtain ⟨d1, d2, d3⟩ := c6 h; exact ⟨d1, k7'.trans d2, d3⟩
        · rw [k5] at h; obtain ⟨d1, d2, d3⟩ := c7 h; exact ⟨d1, k7'.trans d2, d3⟩
        · rw [kk 3 5 (by omega) (by omega), n2, c4]
        · rw [hL4, (hbody _).1 g, if_pos c1, c2, nI_addN]
    · have h400 : t = 400 := by omega
      have ha : a = 261 := congrArg Prod.fst (f2 h400)
      refine endd (setI (setI w 2 t r) 2 t 901) (fun i k h => by rw [rdI, if_neg h]; exact set2 r i k h) (Or.inr ⟨ha, rdI_eq⟩) (fun g' => ?_)
      rw [hL4, (hbody _).2 h400, if_neg f1]
  · obtain ⟨f1, f2⟩ := e3 (by omega)
    have ha : a = 260 := congrArg Prod.fst f1
    refine endd (setI w 2 t 900) (set2 900) (Or.inl ⟨ha, rdI_eq⟩) (fun g' => ?_)
    rw [hL4]
    rcases Nat.lt_or_ge t 400 with g | g
    · rw [(hbody _).1 g, f2, if_neg (by decide)]
    · rw [(hbody _).2 (by omega), if_pos f2]
theorem scan_cut {x0 z0 : XS} {n : Nat} {b : Nat → Nat} (hT : TB x0 z0 n b) (hky : ∀ j, j < 27 → x0.2 4 j = Int64.ofNat (pk (kb j) 0 (txB j).length)) : ∀ (m t p : Nat) (x z : XS) (kd : Int32) (fc fz : Nat), t + m = 400 → m < fc → m < fz → p ≤ n → kd ≠ 260 → kd ≠ 261 → x.1 3 4 = nI t → x.1 3 5 = nI p → FT x0 z0 x z → (∀ j, j < t → TF b n x z j) →
    ∃ z' t', f_X10_cut_L4 fz (nI p) (nI t) z = some z' ∧ t' < 401 ∧ (scanL fc kd x).1 3 4 = nI (t' + 1) ∧ FT x0 z0 (scanL fc kd x) z' ∧ (∀ j, j < t' → TF b n (scanL fc kd x) z' j) ∧ LaT (scanL fc kd x) z' t' := by
  intro m
  induction m with
  | zero =>
    intro t p x z kd fc fz h1 h2 h3 hp k0 k1 x34 x35 hF hTF
    obtain ⟨fc, rfl⟩ : ∃ f, fc = f + 1 := ⟨fc - 1, by omega⟩
    obtain ⟨fz, rfl⟩ : ∃ f, fz = f + 1 := ⟨fz - 1, by omega⟩
    obtain ⟨x2, z2, s1, s2, s3, s4, s5⟩ := scan_one hT hky (show t < 401 by omega) hp k0 k1 x34 x35 hF
    rcases s5 with ⟨s6, s7⟩ | ⟨s6, -⟩
    · rw [s1, s7, scan_end (by rcases s6.1 with g | g; exact Or.inl g.1; exact Or.inr g.1)]
      exact ⟨z2, t, rfl, by omega, s2, s3, fun j hj => s4 j hj (hTF j hj), s6⟩
    · omega
  | succ m ih =>
    intro t p x z kd fc fz h1 h2 h3 hp k0 k1 x34 x35 hF hTF
    obtain ⟨fc, rfl⟩ : ∃ f, fc = f + 1 := ⟨fc - 1, by omega⟩
    obtain ⟨fz, rfl⟩ : ∃ f, fz = f + 1 := ⟨fz - 1, by omega⟩
    obtain ⟨x2, z2, s1, s2, s3, s4, s5⟩ := scan_one hT hky (show t < 401 by omega) hp k0 k1 x34 x35 hF
    rcases s5 with ⟨s6, s7⟩ | ⟨s6, s7, s8, s9, p', s10, s11, s12⟩
    · rw [s1, s7, scan_end (by rcases s6.1 with g | g; exact Or.inl g.1; exact Or.inr g.1)]
      exact ⟨z2, t, rfl, by omega, s2, s3, fun j hj => s4 j hj (hTF j hj), s6⟩
    · rw [s1, s12]
      exact ih (t + 1) p' x2 z2 _ fc fz (by omega) (by omega) (by omega) s10 s7 s8 s2 s11 s3 (fun j hj => by
        rcases Nat.lt_or_ge j t with g | g
        · exact s4 j g (hTF j g)
        · rw [show j = t by omega]; exact s9)
