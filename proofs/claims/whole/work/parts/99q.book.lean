/-! The new book -/
theorem cp_ne {f n s : Nat} {y : XS} {q k : Nat} (h : q ≠ s + 13) : (cp1 f n s y).1 q k = y.1 q k := by
  show (if q = s + 13 ∧ k < _ then y.1 s k else y.1 q k) = _
  rw [if_neg (fun g => h g.1)]
theorem cp_v {f n s : Nat} {y : XS} {M k : Nat} (h : y.1 21 f = nI M) (hM : M ≤ n) (hn : n < 2 ^ 31) (hk : k < M) : (cp1 f n s y).1 (s + 13) k = y.1 s k := by
  show (if s + 13 = s + 13 ∧ k < min (y.1 21 f).toNatClampNeg (min n n) then y.1 s k else y.1 (s + 13) k) = _
  rw [h, nI_clamp (by omega), if_pos ⟨rfl, by omega⟩]
theorem mv_ne {f : Nat} {y : XS} {q k : Nat} (h : ¬ (q = 21 ∧ k = f)) : (mv1 f y).1 q k = y.1 q k := by unfold mv1; rw [rdI, if_neg h]
theorem mv_v {f : Nat} {y : XS} : (mv1 f y).1 21 f = y.1 8 f := rdI_eq
theorem copy_ok {x : XS} {S O c : Nat} (h1 : x.1 8 1 = nI S) (hS : S ≤ 20) (h7 : x.1 8 7 = nI O) (hO : O ≤ 16) (h12 : x.1 8 12 = nI c) (hc : c ≤ 400) :
    ((copyF x).1 21 0 = x.1 8 0 ∧ (copyF x).1 21 1 = nI S ∧ (copyF x).1 21 7 = nI O) ∧
    (∀ q k, 9 ≤ q → q ≤ 13 → k < S → (copyF x).1 (q + 13) k = x.1 q k) ∧ (∀ q k, 14 ≤ q → q ≤ 17 → k < O → (copyF x).1 (q + 13) k = x.1 q k) ∧ (∀ q k, 18 ≤ q → q ≤ 20 → k < c → (copyF x).1 (q + 13) k = x.1 q k) ∧
    (∀ q k, ¬ (21 ≤ q ∧ q ≤ 33) → (copyF x).1 q k = x.1 q k) ∧ (copyF x).2 = x.2 := by
  unfold copyF
  have y0 : (mv1 12 (mv1 7 (mv1 1 (mv1 0 x)))).1 21 0 = x.1 8 0 ∧ (mv1 12 (mv1 7 (mv1 1 (mv1 0 x)))).1 21 1 = nI S ∧ (mv1 12 (mv1 7 (mv1 1 (mv1 0 x)))).1 21 7 = nI O ∧ (mv1 12 (mv1 7 (mv1 1 (mv1 0 x)))).1 21 12 = nI c := by
    refine ⟨?_, ?_, ?_, ?_⟩
    · rw [mv_ne (by omega), mv_ne (by omega), mv_ne (by omega), mv_v]
    · rw [mv_ne (by omega), mv_ne (by omega), mv_v, mv_ne (by omega)]; exact h1
    · rw [mv_ne (by omega), mv_v, mv_ne (by omega), mv_ne (by omega)]; exact h7
    · rw [mv_v, mv_ne (by omega), mv_ne (by omega), mv_ne (by omega)]; exact h12
  have yq : ∀ q k, q ≠ 21 → (mv1 12 (mv1 7 (mv1 1 (mv1 0 x)))).1 q k = x.1 q k := fun q k h => by
    rw [mv_ne (fun g => h g.1), mv_ne (fun g => h g.1), mv_ne (fun g => h g.1), mv_ne (fun g => h g.1)]
  have y2 : (mv1 12 (mv1 7 (mv1 1 (mv1 0 x)))).2 = x.2 := rfl
  generalize mv1 12 (mv1 7 (mv1 1 (mv1 0 x))) = y at *
  obtain ⟨u0, u1, u7, u12⟩ := y0
  refine ⟨⟨?_, ?_, ?_⟩, fun q k a b hk => ?_, fun q k a b hk => ?_, fun q k a b hk => ?_, fun q k a => ?_, y2⟩
  · repeat rw [cp_ne (by decide)]
    exact u0
  · repeat rw [cp_ne (by decide)]
    exact u1
  · repeat rw [cp_ne (by decide)]
    exact u7
  · have hq : q = 9 ∨ q = 10 ∨ q = 11 ∨ q = 12 ∨ q = 13 := by omega
    rcases hq with rfl | rfl | rfl | rfl | rfl
    all_goals
      repeat rw [cp_ne (by decide)]
      rw [cp_v (M := S) (by (repeat rw [cp_ne (by decide)]); exact u1) (by omega) (by omega) hk]
      repeat rw [cp_ne (by decide)]
      exact yq _ _ (by decide)
  · have hq : q = 14 ∨ q = 15 ∨ q = 16 ∨ q = 17 := by omega
    rcases hq with rfl | rfl | rfl | rfl
    all_goals
      repeat rw [cp_ne (by decide)]
      rw [cp_v (M := O) (by (repeat rw [cp_ne (by decide)]); exact u7) (by omega) (by omega) hk]
      repeat rw [cp_ne (by decide)]
      exact yq _ _ (by decide)
  · have hq : q = 18 ∨ q = 19 ∨ q = 20 := by omega
    rcases hq with rfl | rfl | rfl
    all_goals
      repeat rw [cp_ne (by decide)]
      rw [cp_v (M := c) (by (repeat rw [cp_ne (by decide)]); exact u12) (by omega) (by omega) hk]
      repeat rw [cp_ne (by decide)]
      exact yq _ _ (by decide)
  · rw [cp_ne (by omega), cp_ne (by omega), cp_ne (by omega), cp_ne (by omega), cp_ne (by omega), cp_ne (by omega), cp_ne (by omega), cp_ne (by omega), cp_ne (by omega), cp_ne (by omega), cp_ne (by omega), cp_ne (by omega)]
    exact yq q k (by omega)
/-- the code read is the code of the book -/
theorem pre_code {x y w : XS} {cf : Nat → Int32} {F S e c : Nat} (h1 : ∀ q k, 18 ≤ q → q ≤ 20 → k < c → y.1 (q + 13) k = x.1 q k) (h2 : ∀ i, i < e → w.1 19 i = cf i) : ∀ {n : Nat} {m pl nx : Nat} {T : List Bool} {nx' : Nat} {T' : List Bool}, pl + n ≤ c → nx' ≤ e → Pre x cf F S n pl nx T nx' T' → CodeR y w F S e m (pl + n) nx' T' → CodeR y w F S e (n + m) pl nx T
  | 0, m, pl, nx, T, nx', T', _, _, ⟨a, b⟩, g => by subst a; subst b; rw [Nat.zero_add]; exact g
  | n + 1, m, pl, nx, T, nx', T', hc, he, ⟨nx1, T1, h, a, b, d⟩, g => by
    have hI : ItX y w F S (pl + n) nx1 nx' T1 T' := by
      have := It_of (x := x) (y := (fun q k => y.1 (q + 13) k, y.2)) (cf := cf) (cg := w.1 19) (fun q u v => h1 q _ u v (by omega)) (fun i hi => h2 i (by omega)) d
      exact this
    have := pre_code h1 h2 (n := n) (m := m + 1) (pl := pl) (nx := nx) (T := T) (nx' := nx1) (T' := T1) (by omega) (by omega) h ⟨nx', T', a, he, b, hI, g⟩
    rw [show n + 1 + m = n + (m + 1) by omega]; exact this
theorem all_m : ∀ S, S ≤ 20 → ((1 : Int32) <<< (nI S &&& 31)) - 1 = nI (2 ^ S - 1) := by decide +kernel
theorem xor1 : ∀ a, a < 20 → nI a ^^^ 1 = nI (a ^^^ 1) ∧ ((a ^^^ 1) < 2 * (a / 2) + 2) := by decide +kernel
theorem lef_ok {kd its : Int32} {z : XS} {k a : Nat} (h : KD kd its) (h1 : z.1 12 k = its) (h2 : z.1 13 k = nI a) (hk : k < 2 ^ 31) : oneF z 11 (nI k) = lefI kd (nI a) := by
  unfold oneF lefI
  rw [nI_clamp hk, h1, h2]
  rcases h with ⟨rfl, rfl⟩ | ⟨rfl, rfl⟩ | ⟨rfl, rfl⟩ | ⟨rfl, rfl⟩ <;> rfl
theorem rig_ok {kd its : Int32} {z : XS} {k a : Nat} (h : KD kd its) (h1 : z.1 12 k = its) (h2 : z.1 14 k = nI a) (hk : k < 2 ^ 31) : otherF z 11 (nI k) = rigI kd (nI a) := by
  unfold otherF rigI
  rw [nI_clamp hk, h1, h2]
  rcases h with ⟨rfl, rfl⟩ | ⟨rfl, rfl⟩ | ⟨rfl, rfl⟩ | ⟨rfl, rfl⟩ <;> rfl
theorem lef_lt {kd its : Int32} {F a : Nat} (h : KD kd its) (hF : F ≤ 10) (ha : a < 2 * F) : (∃ m, m < 2 * F ∧ lefI kd (nI a) = nI m) ∧ ∃ m, m < 2 * F ∧ rigI kd (nI a) = nI m := by
  obtain ⟨x1, x2⟩ := xor1 a (by omega)
  unfold lefI rigI
  rcases h with ⟨rfl, -⟩ | ⟨rfl, -⟩ | ⟨rfl, -⟩ | ⟨rfl, -⟩
  · exact ⟨⟨a ^^^ 1, by omega, x1⟩, a, ha, rfl⟩
  · exact ⟨⟨a, ha, rfl⟩, a, ha, rfl⟩
  · exact ⟨⟨a ^^^ 1, by omega, x1⟩, a ^^^ 1, by omega, x1⟩
  · exact ⟨⟨a, ha, rfl⟩, a, ha, rfl⟩
theorem kin_ok {kd its : Int32} {z : XS} {k : Nat} (h : KD kd its) (h1 : z.1 12 k = its) (hk : k < 2 ^ 31) : kd = kindF z (nI k) := by
  unfold kindF
  rw [nI_clamp hk, h1]
  rcases h with ⟨rfl, rfl⟩ | ⟨rfl, rfl⟩ | ⟨rfl, rfl⟩ | ⟨rfl, rfl⟩ <;> rfl
