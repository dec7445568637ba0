/-! Teaching: tokens of both, names told ahead, the second reading as a function of roles -/
def KM : List (Int32 × Int32) := [(40, 90), (41, 91), (91, 141), (93, 143), (59, 109), (44, 94), (43, 93), (45, 95), (42, 92), (47, 97), (60, 110), (62, 112), (61, 111), (256, 300), (257, 301), (258, 40), (259, 41), (260, 900), (261, 901),
  (300, 0), (301, 1), (302, 2), (303, 3), (304, 4), (305, 5), (306, 6), (307, 7), (308, 8), (309, 9), (310, 10), (311, 11), (312, 12), (313, 13), (314, 14), (315, 15), (316, 16), (317, 17), (318, 18), (319, 19), (320, 20), (321, 21), (322, 22), (323, 23), (324, 24), (325, 25), (326, 26)]
theorem km_all : ∀ p ∈ KM, ∀ q ∈ KM, (p.1 = q.1 ↔ p.2 = q.2) := by decide +kernel
theorem km_iff {a b c d : Int32} (h : (a, b) ∈ KM) (h2 : (c, d) ∈ KM) : a = c ↔ b = d := km_all _ h _ h2
def STok (z w : XS) : Prop := ∀ q k, 1 ≤ q → q ≤ 4 → w.1 q k = z.1 q k
def TokR (x z : XS) (N : Nat) : Prop := 0 < N ∧ N ≤ 401 ∧ x.1 3 4 = nI N ∧ (∀ t, t < N → (x.1 5 t, z.1 2 t) ∈ KM ∧ x.1 6 t = z.1 3 t) ∧ (∀ t, t < N → (t + 1 < N ↔ x.1 5 t ≠ 260 ∧ x.1 5 t ≠ 261)) ∧
  (∀ s t, s < N → t < N → x.1 5 s = 258 → x.1 5 t = 258 → ∀ w, STok z w → f_X10_isSame (nI s) (nI t) w = some (decide (x.2 7 s = x.2 7 t), w)) ∧
  (∀ t, t < N → x.1 5 t = 259 → ∀ w, STok z w → f_X10_numberAt (nI t) w = some ((x.2 7 t).toInt32, w))
theorem STok.trans {z w v : XS} (h : STok z w) (h2 : STok w v) : STok z v := fun q k a b => (h2 q k a b).trans (h q k a b)
theorem TokR_of {x z y w : XS} {N : Nat} (h1 : ∀ q k, q = 3 ∨ q = 5 ∨ q = 6 → y.1 q k = x.1 q k) (h2 : ∀ k, y.2 7 k = x.2 7 k) (h3 : STok z w) (h : TokR x z N) : TokR y w N := by
  obtain ⟨a, b, c, d, e, f, g⟩ := h
  refine ⟨a, b, by rw [h1 _ _ (by simp)]; exact c, fun t ht => ?_, fun t ht => ?_, fun s t hs ht k1 k2 v hv => ?_, fun t ht k1 v hv => ?_⟩
  · rw [h1 5 _ (by simp), h1 6 _ (by simp), h3 2 _ (by decide) (by decide), h3 3 _ (by decide) (by decide)]; exact d t ht
  · rw [h1 5 _ (by simp)]; exact e t ht
  · rw [h1 5 _ (by simp)] at k1 k2
    rw [h2, h2]; exact f s t hs ht k1 k2 v (h3.trans hv)
  · rw [h1 5 _ (by simp)] at k1
    rw [h2]; exact g t ht k1 v (h3.trans hv)
/-- how many tokens ahead have a role -/
def cn (ρ : Nat → Int32) (r : Int32) : Nat → Nat
  | 0 => 0
  | p + 1 => cn ρ r p + (if ρ p = r then 1 else 0)
/-- the number of a name among those of a role -/
def tl (ρ : Nat → Int32) (V : Nat → Int64) (r : Int32) (v : Int64) : Nat → Int32
  | 0 => -1
  | p + 1 => if tl ρ V r v p = -1 then (if ρ p = r ∧ V p = v then nI (cn ρ r p) else -1) else tl ρ V r v p
def mnr (ρ : Nat → Int32) (V : Nat → Int64) (j : Nat) : Int32 := if ρ j = 6 ∨ ρ j = 8 then tl ρ V 2 (V j) j else tl ρ V 1 (V j) j
def er (ρ : Nat → Int32) (V : Nat → Int64) (j : Nat) : Int32 :=
  if ρ j = 1 then (if tl ρ V 1 (V j) j = -1 then (if cn ρ 1 j = 10 then 4 else 0) else 2)
  else if ρ j = 2 then (if tl ρ V 2 (V j) j = -1 then (if cn ρ 2 j = 20 then 4 else 0) else 2)
  else if ρ j = 3 ∨ ρ j = 4 ∨ ρ j = 7 then (if tl ρ V 1 (V j) j = -1 then 3 else 0)
  else if ρ j = 5 then (if cn ρ 5 j = 16 then 4 else 0)
  else if ρ j = 6 ∨ ρ j = 8 then (if tl ρ V 2 (V j) j = -1 then 3 else 0)
  else 0
theorem cn_1 (ρ : Nat → Int32) (r : Int32) (p : Nat) : cn ρ r (p + 1) = cn ρ r p + (if ρ p = r then 1 else 0) := rfl
theorem tl_1 (ρ : Nat → Int32) (V : Nat → Int64) (r : Int32) (v : Int64) (p : Nat) : tl ρ V r v (p + 1) = if tl ρ V r v p = -1 then (if ρ p = r ∧ V p = v then nI (cn ρ r p) else -1) else tl ρ V r v p := rfl
theorem cn_y {ρ : Nat → Int32} {r : Int32} {p : Nat} (h : ρ p = r) : cn ρ r (p + 1) = cn ρ r p + 1 := by rw [cn_1, if_pos h]
theorem cn_n {ρ : Nat → Int32} {r : Int32} {p : Nat} (h : ρ p ≠ r) : cn ρ r (p + 1) = cn ρ r p := by rw [cn_1, if_neg h]; rfl
theorem cn_le (ρ : Nat → Int32) (r : Int32) : ∀ p, cn ρ r p ≤ p
  | 0 => Nat.le_refl _
  | p + 1 => by have := cn_le ρ r p; unfold cn; split <;> omega
theorem cn_cong {ρ σ : Nat → Int32} {r : Int32} : ∀ {p : Nat}, (∀ j, j < p → σ j = ρ j) → cn σ r p = cn ρ r p
  | 0, _ => rfl
  | p + 1, h => by unfold cn; rw [cn_cong (fun j hj => h j (by omega)), h p (by omega)]
theorem cn_step {ρ : Nat → Int32} {r : Int32} {p : Nat} : ∀ (n : Nat), (∀ j, p ≤ j → j < p + n → ρ j ≠ r) → cn ρ r (p + n) = cn ρ r p
  | 0, _ => rfl
  | n + 1, h => by
    rw [show p + (n + 1) = p + n + 1 from rfl, cn_n (h (p + n) (by omega) (by omega)), cn_step n (fun j a b => h j a (by omega))]
theorem cn_skip {ρ : Nat → Int32} {r : Int32} {p p' : Nat} (hp : p ≤ p') (h : ∀ j, p ≤ j → j < p' → ρ j ≠ r) : cn ρ r p' = cn ρ r p := by
  obtain ⟨n, rfl⟩ := Nat.le.dest hp
  exact cn_step n h
theorem cn_mono {ρ : Nat → Int32} {r : Int32} {p : Nat} : ∀ {q : Nat}, p ≤ q → cn ρ r p ≤ cn ρ r q
  | 0, h => by rw [Nat.le_zero.mp h]; exact Nat.le_refl _
  | q + 1, h => by
    rcases Nat.lt_or_ge p (q + 1) with h1 | h1
    · have := cn_mono (ρ := ρ) (r := r) (show p ≤ q by omega)
      show _ ≤ cn ρ r q + _; omega
    · rw [show p = q + 1 by omega]; exact Nat.le_refl _
theorem cn_lt {ρ : Nat → Int32} {r : Int32} {j p : Nat} (h : j < p) (hr : ρ j = r) : cn ρ r j < cn ρ r p := by
  have h1 := cn_mono (ρ := ρ) (r := r) (show j + 1 ≤ p from h)
  have h2 : cn ρ r (j + 1) = cn ρ r j + 1 := by show cn ρ r j + _ = _; rw [if_pos hr]
  omega
theorem tl_cong {ρ σ : Nat → Int32} {V U : Nat → Int64} {r : Int32} {v : Int64} : ∀ {p : Nat}, (∀ j, j < p → σ j = ρ j) → (∀ j, U j = V j) → tl σ U r v p = tl ρ V r v p
  | 0, _, _ => rfl
  | p + 1, h, g => by unfold tl; rw [tl_cong (fun j hj => h j (by omega)) g, h p (by omega), g, cn_cong (fun j hj => h j (by omega))]
theorem mn_cong {ρ σ : Nat → Int32} {V U : Nat → Int64} {j : Nat} (h : ∀ i, i ≤ j → σ i = ρ i) (g : ∀ i, U i = V i) : mnr σ U j = mnr ρ V j := by
  unfold mnr; rw [h j (Nat.le_refl _), g, tl_cong (fun i hi => h i (by omega)) g, tl_cong (fun i hi => h i (by omega)) g]
theorem er_cong {ρ σ : Nat → Int32} {V U : Nat → Int64} {j : Nat} (h : ∀ i, i ≤ j → σ i = ρ i) (g : ∀ i, U i = V i) : er σ U j = er ρ V j := by
  unfold er; rw [h j (Nat.le_refl _), g, tl_cong (fun i hi => h i (by omega)) g, tl_cong (fun i hi => h i (by omega)) g, cn_cong (fun i hi => h i (by omega)), cn_cong (fun i hi => h i (by omega)), cn_cong (fun i hi => h i (by omega))]
theorem nI_nm1 {n : Nat} (h : n < 2 ^ 31) : nI n ≠ -1 := by
  intro e
  have := congrArg Int32.toInt e
  rw [nI_toInt (by omega)] at this
  have h2 : (-1 : Int32).toInt = -1 := by decide
  omega
theorem tl_val {ρ : Nat → Int32} {V : Nat → Int64} {r : Int32} {v : Int64} : ∀ {p : Nat}, p < 2 ^ 31 → tl ρ V r v p = -1 ∨ ∃ k, k < cn ρ r p ∧ tl ρ V r v p = nI k
  | 0, _ => Or.inl rfl
  | p + 1, hp => by
    have h0 : cn ρ r p ≤ cn ρ r (p + 1) := cn_mono (by omega)
    unfold tl
    split
    · split
      · next h => exact Or.inr ⟨_, cn_lt (by omega) h.1, rfl⟩
      · exact Or.inl rfl
    · next h =>
      rcases tl_val (ρ := ρ) (V := V) (r := r) (v := v) (p := p) (by omega) with e | ⟨k, a, b⟩
      · exact absurd e h
      · exact Or.inr ⟨k, by omega, b⟩
theorem tl_keep {ρ : Nat → Int32} {V : Nat → Int64} {r : Int32} {v : Int64} {p k : Nat} (hk : k < 2 ^ 31) (h : tl ρ V r v p = nI k) : ∀ n, tl ρ V r v (p + n) = nI k
  | 0 => h
  | n + 1 => by
    show (if tl ρ V r v (p + n) = -1 then _ else tl ρ V r v (p + n)) = _
    rw [tl_keep hk h n, if_neg (nI_nm1 hk)]
/-- the class looks a name up in its row -/
theorem find_snoc (x : XS) (q : Nat) (nm : Int64) : ∀ (n j : Nat), j + n < 2 ^ 31 → findL x q nm (n + 1) j = if findL x q nm n j = -1 then (if x.2 q (j + n) = nm then nI (j + n) else -1) else findL x q nm n j
  | 0, j, _ => by
    show (if x.2 q j = nm then nI j else (-1 : Int32)) = if (-1 : Int32) = -1 then _ else _
    rw [if_pos rfl]; rfl
  | n + 1, j, hj => by
    rw [show findL x q nm (n + 1 + 1) j = if x.2 q j = nm then nI j else findL x q nm (n + 1) (j + 1) from rfl, find_snoc x q nm n (j + 1) (by omega), show findL x q nm (n + 1) j = if x.2 q j = nm then nI j else findL x q nm n (j + 1) from rfl, show j + 1 + n = j + (n + 1) by omega]
    by_cases h : x.2 q j = nm
    · simp only [if_pos h]
      rw [if_neg (nI_nm1 (by omega))]
    · simp only [if_neg h]
theorem find_tl {x : XS} {q : Nat} {ρ : Nat → Int32} {V : Nat → Int64} {r : Int32} (v : Int64) : ∀ {p : Nat}, p < 2 ^ 31 → (∀ j, j < p → ρ j = r → x.2 q (cn ρ r j) = V j) → findL x q v (cn ρ r p) 0 = tl ρ V r v p
  | 0, _, _ => rfl
  | p + 1, hp, h => by
    have ih := find_tl (x := x) (q := q) (ρ := ρ) (V := V) (r := r) v (p := p) (by omega) (fun j hj => h j (by omega))
    have hc := cn_le ρ r p
    by_cases hr : ρ p = r
    · rw [show cn ρ r (p + 1) = cn ρ r p + 1 by show cn ρ r p + _ = _; rw [if_pos hr], find_snoc x q v _ 0 (by omega), ih, Nat.zero_add, h p (by omega) hr]
      rw [tl_1]
      simp only [hr, true_and]
    · rw [show cn ρ r (p + 1) = cn ρ r p by show cn ρ r p + _ = _; rw [if_neg hr]; rfl, ih]
      rw [tl_1, if_neg (show ¬ (ρ p = r ∧ V p = v) from fun z => hr z.1)]
      split
      · assumption
      · rfl
/-- the reference looks a name up among the tokens -/
theorem told_ok {x z : XS} {N : Nat} (hT : TokR x z N) {r : Int32} {p : Nat} (hp : p < N) (hk : x.1 5 p = 258) {w : XS} (hw : STok z w) (hK : ∀ j, j < p → w.1 5 j = r → x.1 5 j = 258) :
    ∀ (n j : Nat), j + n = p → ∀ fuel, n < fuel → tl (w.1 5) (x.2 7) r (x.2 7 p) j = -1 → f_X10_told_L5 fuel (nI p) r (nI (cn (w.1 5) r j)) (nI j) w = some (tl (w.1 5) (x.2 7) r (x.2 7 p) p, w)
  | _, _, _, 0, h, _ => absurd h (Nat.not_lt_zero _)
  | 0, j, hj, fuel + 1, _, ht => by
    have : j = p := by omega
    subst this
    unfold f_X10_told_L5
    rw [if_pos (Int32.le_refl _), ht]
  | n + 1, j, hj, fuel + 1, hf, ht => by
    have hN := hT.2.1
    have hjp : j < p := by omega
    have hcj := cn_le (w.1 5) r j
    unfold f_X10_told_L5
    rw [if_neg (fun h => by have := (nI_leq (by omega) (by omega)).mp h; omega), inB_nI (show j < 401 by omega) (by decide), og_tr, nI_clamp (by omega), show nI j + 1 = nI (j + 1) from nI_addN j 1]
    by_cases hr : w.1 5 j = r
    · rw [if_pos hr, hT.2.2.2.2.2.1 j p (by omega) hp (hK j hjp hr) hk w hw, ob_some1]
      by_cases hv : x.2 7 j = x.2 7 p
      · have e : tl (w.1 5) (x.2 7) r (x.2 7 p) (j + 1) = nI (cn (w.1 5) r j) := by
          show (if tl (w.1 5) (x.2 7) r (x.2 7 p) j = -1 then (if w.1 5 j = r ∧ x.2 7 j = x.2 7 p then nI (cn (w.1 5) r j) else -1) else _) = _
          rw [if_pos ht, if_pos ⟨hr, hv⟩]
        have e2 := tl_keep (by omega) e n
        rw [show j + 1 + n = p by omega] at e2
        rw [if_neg (b2i_n (decide_eq_true hv)), e2]
      · rw [if_pos (b2i_f (decide_eq_false hv)), show nI (cn (w.1 5) r j) + 1 = nI (cn (w.1 5) r (j + 1)) by
          rw [show cn (w.1 5) r (j + 1) = cn (w.1 5) r j + 1 by show cn (w.1 5) r j + _ = _; rw [if_pos hr]]; exact nI_addN _ 1]
        refine told_ok hT hp hk hw hK n (j + 1) (by omega) fuel (by omega) ?_
        show (if tl (w.1 5) (x.2 7) r (x.2 7 p) j = -1 then (if w.1 5 j = r ∧ x.2 7 j = x.2 7 p then nI (cn (w.1 5) r j) else -1) else _) = _
        rw [if_pos ht, if_neg (fun h => hv h.2)]
    · rw [if_neg hr, show cn (w.1 5) r j = cn (w.1 5) r (j + 1) by show _ = cn (w.1 5) r j + _; rw [if_neg hr]; rfl]
      refine told_ok hT hp hk hw hK n (j + 1) (by omega) fuel (by omega) ?_
      show (if tl (w.1 5) (x.2 7) r (x.2 7 p) j = -1 then (if w.1 5 j = r ∧ x.2 7 j = x.2 7 p then nI (cn (w.1 5) r j) else -1) else _) = _
      rw [if_pos ht, if_neg (fun h => hr h.1)]
theorem told_at {x z : XS} {N : Nat} (hT : TokR x z N) {r : Int32} {p : Nat} (hp : p < N) (hk : x.1 5 p = 258) {w : XS} (hw : STok z w) (hK : ∀ j, j < p → w.1 5 j = r → x.1 5 j = 258) : f_X10_told (nI p) r w = some (tl (w.1 5) (x.2 7) r (x.2 7 p) p, w) :=
  told_ok hT hp hk hw hK p 0 (by omega) 402 (by have := hT.2.1; omega) rfl
