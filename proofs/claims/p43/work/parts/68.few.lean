/-! The fewest that do not hold; the words made new -/
def nh (l r : Nat → Nat) (s : Int32) : Nat → Nat → Nat
  | 0, _ => 0
  | k + 1, p => nh l r s k p + (if (bit s k && !(holdsP p (l k) || holdsP p (r k))) = true then 1 else 0)
/-- the least of 3 and the first n -/
def mn (f : Nat → Nat) : Nat → Nat
  | 0 => 3
  | n + 1 => min (mn f n) (f n)
theorem mn_le {f : Nat → Nat} {v : Nat} (hv : v < 3) : ∀ {n : Nat}, mn f n ≤ v ↔ ∃ p, p < n ∧ f p ≤ v
  | 0 => ⟨fun h => by exact absurd h (by show ¬ 3 ≤ v; omega), fun ⟨p, h, _⟩ => absurd h (Nat.not_lt_zero p)⟩
  | n + 1 => by
    show min (mn f n) (f n) ≤ v ↔ _
    have ih := mn_le hv (f := f) (n := n)
    refine ⟨fun h => ?_, fun ⟨p, h1, h2⟩ => ?_⟩
    · rcases Nat.le_total (mn f n) (f n) with q | q
      · rw [Nat.min_eq_left q] at h
        obtain ⟨p, h1, h2⟩ := ih.mp h
        exact ⟨p, by omega, h2⟩
      · rw [Nat.min_eq_right q] at h; exact ⟨n, by omega, h⟩
    · by_cases e : p = n
      · rw [e] at h2; exact Nat.le_trans (Nat.min_le_right _ _) h2
      · exact Nat.le_trans (Nat.min_le_left _ _) (ih.mpr ⟨p, by omega, h2⟩)
theorem mn_top (f : Nat → Nat) : ∀ n, mn f n ≤ 3
  | 0 => Nat.le_refl 3
  | n + 1 => Nat.le_trans (Nat.min_le_left _ _) (mn_top f n)
theorem few_bits {x : XS} {F S : Nat} {l r : Nat → Nat} (s : Int32) (hB : BkX x F S l r) (hP : PeaB x F S l r) {w b : Nat} (hw : w < usedN F) (hb : b < 64) :
    bitL (fewU x s (nI w)).1 b = (decide (64 * w + b < 2 ^ F) && decide (nh l r s S (64 * w + b) ≤ 0)) ∧ bitL (fewU x s (nI w)).2.1 b = (decide (64 * w + b < 2 ^ F) && decide (nh l r s S (64 * w + b) ≤ 1)) ∧ bitL (fewU x s (nI w)).2.2 b = (decide (64 * w + b < 2 ^ F) && decide (nh l r s S (64 * w + b) ≤ 2)) := by
  have hF := hB.1
  have hS := hB.2.1
  unfold fewU
  rw [hB.2.2.2.1, nI_clamp (by omega)]
  have ha : bitL (allOfL x (nI w)) b = decide (64 * w + b < 2 ^ F) := by rw [allOf_eq hB.2.2.1, all_bit F (by omega) w hw b hb]
  generalize decide (64 * w + b < 2 ^ F) = d at ha
  refine itP_rel (f := fewStep x s (nI w)) (P := fun k (u : Int64 × Int64 × Int64) => bitL u.1 b = (d && decide (nh l r s k (64 * w + b) ≤ 0)) ∧ bitL u.2.1 b = (d && decide (nh l r s k (64 * w + b) ≤ 1)) ∧ bitL u.2.2 b = (d && decide (nh l r s k (64 * w + b) ≤ 2))) ?_ (fun k hk u hu => ?_)
  · rw [ha]
    show _ = (_ && decide (0 ≤ 0)) ∧ _ = (_ && decide (0 ≤ 1)) ∧ _ = (_ && decide (0 ≤ 2))
    cases d <;> simp
  · obtain ⟨q0, q1, q2⟩ := hu
    unfold fewStep
    rw [hasB_bit (show k < 32 by omega)]
    show _ = (_ && decide (nh l r s k _ + _ ≤ 0)) ∧ _ = (_ && decide (nh l r s k _ + _ ≤ 1)) ∧ _ = (_ && decide (nh l r s k _ + _ ≤ 2))
    have hr := row_bit hB hP hk hw hb
    generalize nh l r s k (64 * w + b) = n at q0 q1 q2
    cases hs : bit s k with
    | false =>
      rw [if_neg (by decide)]
      simp only [Bool.false_and, Bool.false_eq_true, if_false, Nat.add_zero]
      exact ⟨q0, q1, q2⟩
    | true =>
      rw [if_pos rfl]
      dsimp only
      rw [bitL_and, bitL_or, bitL_and, bitL_or, bitL_and, hr, q0, q1, q2]
      cases (holdsP (64 * w + b) (l k) || holdsP (64 * w + b) (r k)) with
      | true =>
        simp only [Bool.and_true, Bool.not_true, Bool.and_false, Bool.false_eq_true, if_false, Nat.add_zero]
        refine ⟨trivial, ?_, ?_⟩
        · cases d
          · rfl
          · by_cases h : n ≤ 0
            · have h1 : n ≤ 1 := by omega
              simp [h, h1]
            · simp [h]
        · cases d
          · rfl
          · by_cases h : n ≤ 1
            · have h1 : n ≤ 2 := by omega
              simp [h, h1]
            · simp [h]
      | false =>
        simp only [Bool.and_false, Bool.false_or, Bool.not_false, Bool.and_true, if_true]
        refine ⟨?_, ?_, ?_⟩
        · rw [decide_eq_false (show ¬ n + 1 ≤ 0 by omega), Bool.and_false]
        · rw [show (decide (n + 1 ≤ 1)) = decide (n ≤ 0) from decide_eq_decide.mpr (by omega)]
        · rw [show (decide (n + 1 ≤ 2)) = decide (n ≤ 1) from decide_eq_decide.mpr (by omega)]
theorem min3 : ∀ a, a < 4 → ∀ b, b < 4 → minI (nI a) (nI b) = nI (min a b) := by decide +kernel
theorem fewIn_eq {x : XS} {F S : Nat} {l r : Nat → Nat} (s : Int32) (hB : BkX x F S l r) (hP : PeaB x F S l r) {w : Nat} (hw : w < usedN F) : ∃ m, m ≤ 3 ∧ fewIn x s (nI w) = nI m ∧ ∀ v, v < 3 → (m ≤ v ↔ ∃ b, b < 64 ∧ 64 * w + b < 2 ^ F ∧ nh l r s S (64 * w + b) ≤ v) := by
  have hz : ∀ (u : Int64) (v : Nat), (∀ b, b < 64 → bitL u b = (decide (64 * w + b < 2 ^ F) && decide (nh l r s S (64 * w + b) ≤ v))) → (u = 0 ↔ ¬ ∃ b, b < 64 ∧ 64 * w + b < 2 ^ F ∧ nh l r s S (64 * w + b) ≤ v) := fun u v h => by
    rw [zeroL]
    refine ⟨fun hz ⟨b, h1, h2, h3⟩ => ?_, fun hn b hb => ?_⟩
    · have := hz b h1
      rw [h b h1, decide_eq_true h2, decide_eq_true h3] at this
      cases this
    · rw [h b hb]
      cases hc : (decide (64 * w + b < 2 ^ F) && decide (nh l r s S (64 * w + b) ≤ v)) with
      | false => rfl
      | true =>
        rw [Bool.and_eq_true, decide_eq_true_iff, decide_eq_true_iff] at hc
        exact absurd ⟨b, hb, hc.1, hc.2⟩ hn
  have h0 := hz (fewU x s (nI w)).1 0 (fun b hb => (few_bits s hB hP hw hb).1)
  have h1 := hz (fewU x s (nI w)).2.1 1 (fun b hb => (few_bits s hB hP hw hb).2.1)
  have h2 := hz (fewU x s (nI w)).2.2 2 (fun b hb => (few_bits s hB hP hw hb).2.2)
  unfold fewIn
  have hm : ∀ v v', v ≤ v' → (∃ b, b < 64 ∧ 64 * w + b < 2 ^ F ∧ nh l r s S (64 * w + b) ≤ v) → ∃ b, b < 64 ∧ 64 * w + b < 2 ^ F ∧ nh l r s S (64 * w + b) ≤ v' := fun v v' h ⟨b, q1, q2, q3⟩ => ⟨b, q1, q2, Nat.le_trans q3 h⟩
  have hv3 : ∀ v, v < 3 → v = 0 ∨ v = 1 ∨ v = 2 := fun v h => by omega
  by_cases c0 : (fewU x s (nI w)).1 = 0
  · rw [if_pos c0]
    have n0 := h0.mp c0
    by_cases c1 : (fewU x s (nI w)).2.1 = 0
    · rw [if_pos c1]
      have n1 := h1.mp c1
      by_cases c2 : (fewU x s (nI w)).2.2 = 0
      · rw [if_pos c2]
        have n2 := h2.mp c2
        refine ⟨3, Nat.le_refl 3, rfl, fun v hv => ⟨fun h => by omega, fun h => absurd (hm v 2 (by omega) h) n2⟩⟩
      · rw [if_neg c2]
        have y2 := Classical.not_not.mp (fun h => c2 (h2.mpr h))
        refine ⟨2, by omega, rfl, fun v hv => ⟨fun h => hm 2 v h y2, fun h => ?_⟩⟩
        rcases hv3 v hv with e | e | e <;> subst e
        · exact absurd h n0
        · exact absurd h n1
        · exact Nat.le_refl 2
    · rw [if_neg c1]
      have y1 := Classical.not_not.mp (fun h => c1 (h1.mpr h))
      refine ⟨1, by omega, rfl, fun v hv => ⟨fun h => hm 1 v h y1, fun h => ?_⟩⟩
      rcases hv3 v hv with e | e | e <;> subst e
      · exact absurd h n0
      · exact Nat.le_refl 1
      · omega
  · rw [if_neg c0]
    have y0 := Classical.not_not.mp (fun h => c0 (h0.mpr h))
    exact ⟨0, by omega, rfl, fun v hv => ⟨fun h => hm 0 v h y0, fun _ => Nat.zero_le v⟩⟩
theorem lt4_ext {a b : Nat} (ha : a ≤ 3) (hb : b ≤ 3) (h : ∀ v, v < 3 → (a ≤ v ↔ b ≤ v)) : a = b := by
  have h0 := h 0 (by omega)
  have h1 := h 1 (by omega)
  have h2 := h 2 (by omega)
  omega
theorem few_ok {x : XS} {F S : Nat} {l r : Nat → Nat} {s : Int32} (hB : BkX x F S l r) (hP : PeaB x F S l r) : fewF x s = if mn (nh l r s S) (2 ^ F) ≤ 2 then nI (mn (nh l r s S) (2 ^ F)) else -1 := by
  have hF := hB.1
  obtain ⟨u1, u2, u3, -⟩ := used_c F (by omega)
  unfold fewF
  dsimp only
  have h40 := hP.1
  rw [h40, nI_clamp (by omega)]
  have h7 := itP_rel (f := fun j p => minI p (fewIn x s (nI j))) (n := usedN F) (y := (3 : Int32)) (P := fun j p => ∃ m, m ≤ 3 ∧ p = nI m ∧ ∀ v, v < 3 → (m ≤ v ↔ ∃ w, w < j ∧ ∃ b, b < 64 ∧ 64 * w + b < 2 ^ F ∧ nh l r s S (64 * w + b) ≤ v))
    ⟨3, Nat.le_refl 3, rfl, fun v hv => ⟨fun h => by omega, fun ⟨w, h, _⟩ => absurd h (Nat.not_lt_zero w)⟩⟩
    (fun j hj p hp => by
      obtain ⟨m, m1, m2, m3⟩ := hp
      obtain ⟨n, n1, n2, n3⟩ := fewIn_eq s hB hP hj
      refine ⟨min m n, by omega, by rw [m2, n2, min3 m (by omega) n (by omega)], fun v hv => ⟨fun h => ?_, fun ⟨w, w1, w2⟩ => ?_⟩⟩
      · rcases Nat.le_total m n with q | q
        · rw [Nat.min_eq_left q] at h
          obtain ⟨w, w1, w2⟩ := (m3 v hv).mp h
          exact ⟨w, by omega, w2⟩
        · rw [Nat.min_eq_right q] at h
          exact ⟨j, by omega, (n3 v hv).mp h⟩
      · by_cases e : w = j
        · rw [e] at w2; exact Nat.le_trans (Nat.min_le_right _ _) ((n3 v hv).mpr w2)
        · exact Nat.le_trans (Nat.min_le_left _ _) ((m3 v hv).mpr ⟨w, by omega, w2⟩))
  obtain ⟨m, m1, m2, m3⟩ := h7
  have e : m = mn (nh l r s S) (2 ^ F) := lt4_ext m1 (mn_top _ _) (fun v hv => by
    rw [m3 v hv, mn_le hv]
    exact ⟨fun ⟨w, w1, b, b1, b2, b3⟩ => ⟨64 * w + b, b2, b3⟩, fun ⟨p, p1, p2⟩ => ⟨p / 64, by omega, p % 64, Nat.mod_lt _ (by decide), by rw [show 64 * (p / 64) + p % 64 = p by omega]; exact p1, by rw [show 64 * (p / 64) + p % 64 = p by omega]; exact p2⟩⟩)
  rw [m2, ← e]
  have : ∀ m, m < 4 → ((nI m ≤ 2) ↔ m ≤ 2) := by decide +kernel
  by_cases h : m ≤ 2
  · rw [if_pos h, if_pos ((this m (by omega)).mpr h)]
  · rw [if_neg h, if_neg (fun q => h ((this m (by omega)).mp q))]
theorem prep_ok {x : XS} {F S : Nat} {l r : Nat → Nat} (hB : BkX x F S l r) : PeaB (prepF x) F S l r ∧ (prepF x).1 40 6 = -1 ∧ (∀ q k, q ≠ 40 → (prepF x).1 q k = x.1 q k) ∧ ∀ q k, q ≠ 43 → (prepF x).2 q k = x.2 q k := by
  have hF := hB.1
  have hS := hB.2.1
  obtain ⟨u1, u2, u3, u4⟩ := used_c F (by omega)
  unfold prepF
  dsimp only
  rw [show (setI x 40 6 (-1)).1 21 0 = x.1 21 0 from rdI_ne (by decide), hB.2.2.1, u4]
  generalize hx2 : setI (setI x 40 6 (-1)) 40 4 (nI (usedN F)) = x2
  have g6 : x2.1 40 6 = -1 := by rw [← hx2, rdI_nk (by decide)]; exact rdI_eq
  have g4 : x2.1 40 4 = nI (usedN F) := by rw [← hx2]; exact rdI_eq
  have gq : ∀ q k, q ≠ 40 → x2.1 q k = x.1 q k := fun q k h => by rw [← hx2, rdI_ne h, rdI_ne h]
  have gl : ∀ q k, x2.2 q k = x.2 q k := fun q k => by rw [← hx2]; rfl
  rw [gq _ _ (by decide), hB.2.2.2.1, nI_clamp (by omega)]
  have h7 := itP_rel (f := prepOut) (n := S) (y := x2) (P := fun j (y : XS) => y.1 = x2.1 ∧ (∀ k, k < j → ∀ w, w < usedN F → y.2 43 (k * 16 + w) = (holdsL (nI (l k)) (nI w) ||| holdsL (nI (r k)) (nI w))) ∧ ∀ q k, q ≠ 43 → y.2 q k = x2.2 q k)
    ⟨rfl, fun k h => absurd h (Nat.not_lt_zero k), fun _ _ _ => rfl⟩
    (fun j hj y hy => by
      obtain ⟨y1, y2, y3⟩ := hy
      unfold prepOut
      rw [y1, g4, nI_clamp (by omega)]
      have h8 := itP_rel (f := prepIn j) (n := usedN F) (y := y) (P := fun n (u : XS) => u.1 = x2.1 ∧ (∀ k, k < j → ∀ w, w < usedN F → u.2 43 (k * 16 + w) = (holdsL (nI (l k)) (nI w) ||| holdsL (nI (r k)) (nI w))) ∧ (∀ w, w < n → u.2 43 (j * 16 + w) = (holdsL (nI (l j)) (nI w) ||| holdsL (nI (r j)) (nI w))) ∧ ∀ q k, q ≠ 43 → u.2 q k = x2.2 q k)
        ⟨y1, y2, fun w h => absurd h (Nat.not_lt_zero w), y3⟩
        (fun w hw u hu => by
          obtain ⟨e1, e2, e3, e4⟩ := hu
          have hm : ∀ m, m < 320 → (¬ nI m < 0) ∧ (¬ nI 320 ≤ nI m) := by decide +kernel
          obtain ⟨m1, m2⟩ := hm (j * 16 + w) (by omega)
          unfold prepIn
          rw [show nI j * 16 + nI w = nI (j * 16 + w) by rw [show (16 : Int32) = nI 16 from rfl, pk_mul, nI_addN], if_neg m1, if_neg m2, nI_clamp (by omega), entI_nI (by omega) (by decide), entI_nI (by omega) (by decide), e1, gq _ _ (by decide), gq _ _ (by decide)]
          obtain ⟨b1, b2⟩ := (hB.2.2.2.2.2 j hj)
          rw [b1, b2]
          refine ⟨e1, fun k hk w' hw' => ?_, fun w' hw' => ?_, fun q k h => (rdL_ne h).trans (e4 q k h)⟩
          · rw [rdL_nk (by omega)]; exact e2 k hk w' hw'
          · by_cases e : w' = w
            · rw [e, rdL_eq]
            · rw [rdL_nk (by omega)]; exact e3 w' (by omega))
      obtain ⟨f1, f2, f3, f4⟩ := h8
      refine ⟨f1, fun k hk w hw => ?_, f4⟩
      by_cases e : k = j
      · rw [e]; exact f3 w hw
      · exact f2 k (by omega) w hw)
  obtain ⟨e1, e2, e3⟩ := h7
  exact ⟨⟨by rw [e1]; exact g4, e2⟩, by rw [e1]; exact g6, fun q k h => by rw [e1]; exact gq q k h, fun q k h => (e3 q k h).trans (gl q k)⟩
