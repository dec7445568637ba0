/-! More of what the law checks -/
theorem xor2_bit {m k j : Nat} : (m ^^^ 2 ^ k).testBit j = (m.testBit j ^^ decide (k = j)) := by
  rw [Nat.testBit_xor, Nat.testBit_two_pow]
theorem brk_le {b : Bok} (hW : BW b) {m k : Nat} (hm : m < 2 ^ bS b) (hk : k < bS b) (hb : m.testBit k = true) : nP b m ≤ nP b (m ^^^ 2 ^ k) := by
  have hS := hW.2.1
  have h20 : m < 2 ^ 20 := small_m (by omega) hm
  have hx := xor_lt hm hk
  have h20x : m ^^^ 2 ^ k < 2 ^ 20 := small_m (by omega) hx
  refine fb_ct_sub (fun p _ h => ?_)
  refine PA_le (fun j hj h1 => ?_) h
  rw [bit_nI (by omega), xor2_bit] at h1
  rw [bit_nI (by omega)]
  by_cases e : k = j
  · subst e; exact hb
  · rw [decide_eq_false e, Bool.xor_false] at h1; exact h1
theorem nh_one {l r : Nat → Nat} {s u : Int32} {p k : Nat} : ∀ {n : Nat}, (∀ j, j < n → j ≠ k → bit s j = bit u j) → nh l r s n p ≤ nh l r u n p + (if k < n then 1 else 0)
  | 0, _ => Nat.zero_le _
  | n + 1, h => by
    have h1 := nh_one (n := n) (fun j hj => h j (by omega)) (l := l) (r := r) (p := p)
    show nh l r s n p + (if (bit s n && !(holdsP p (l n) || holdsP p (r n))) = true then 1 else 0) ≤ nh l r u n p + (if (bit u n && !(holdsP p (l n) || holdsP p (r n))) = true then 1 else 0) + _
    by_cases e : n = k
    · subst e
      rw [if_neg (Nat.lt_irrefl _)] at h1
      rw [if_pos (Nat.lt_succ_self _)]
      split <;> split <;> omega
    · rw [h n (by omega) e]
      by_cases hk : k < n
      · rw [if_pos hk] at h1; rw [show (if k < n + 1 then 1 else 0 : Nat) = 1 from if_pos (by omega)]; omega
      · rw [show (if k < n + 1 then 1 else 0 : Nat) = 0 from if_neg (by omega)]; rw [if_neg hk] at h1; omega
theorem fw_one {b : Bok} (hW : BW b) {m k : Nat} (hm : m < 2 ^ bS b) (hk : k < bS b) (hf : (1 : Int32) < fwV b m) : nP b (m ^^^ 2 ^ k) = 0 := by
  have hS := hW.2.1
  have h20 : m < 2 ^ 20 := small_m (by omega) hm
  have hx := xor_lt hm hk
  have h20x : m ^^^ 2 ^ k < 2 ^ 20 := small_m (by omega) hx
  refine fb_ct_zero.mpr (fun p hp => ?_)
  cases hP : Pm b (m ^^^ 2 ^ k) p with
  | false => rfl
  | true =>
    have h0 : nh (bl b) (br b) (nI (m ^^^ 2 ^ k)) (bS b) p = 0 := PA_nh.mp hP
    have h1 : nh (bl b) (br b) (nI m) (bS b) p ≤ 1 := by
      have := nh_one (s := nI m) (u := nI (m ^^^ 2 ^ k)) (l := bl b) (r := br b) (p := p) (k := k) (n := bS b) (fun j hj e => by
        rw [bit_nI (by omega), bit_nI (by omega), xor2_bit, decide_eq_false (fun z => e z.symm), Bool.xor_false])
      rw [h0, if_pos hk] at this
      exact this
    have h2 := (mn_le (f := nh (bl b) (br b) (nI m) (bS b)) (v := 1) (by decide)).mpr ⟨p, hp, h1⟩
    unfold fwV at hf
    rw [if_pos (by omega)] at hf
    have := (nI_ltI (a := 1) (by decide) (by omega)).mp hf
    omega
theorem fw_pos {b : Bok} {m : Nat} (hp : nP b m ≠ 0) : fwV b m = 0 := by
  obtain ⟨p, h1, h2⟩ := fb_ct_pos.mp (Nat.pos_of_ne_zero hp)
  have h0 : nh (bl b) (br b) (nI m) (bS b) p = 0 := PA_nh.mp h2
  have := (mn_le (f := nh (bl b) (br b) (nI m) (bS b)) (v := 0) (by decide)).mpr ⟨p, h1, by omega⟩
  unfold fwV
  rw [if_pos (by omega), show mn (nh (bl b) (br b) (nI m) (bS b)) (2 ^ bF b) = 0 by omega]
  rfl
theorem fw_none {b : Bok} {m : Nat} (hp : nP b m = 0) : fwV b m = -1 ∨ fwV b m = nI 1 ∨ fwV b m = nI 2 := by
  have h0 : ¬ mn (nh (bl b) (br b) (nI m) (bS b)) (2 ^ bF b) ≤ 0 := fun h => by
    obtain ⟨p, h1, h2⟩ := (mn_le (v := 0) (by decide)).mp h
    have h3 := fb_ct_zero.mp hp p h1
    rw [show Pm b m p = true from PA_nh.mpr (by omega)] at h3
    cases h3
  unfold fwV
  split
  · rename_i h2
    by_cases h1 : mn (nh (bl b) (br b) (nI m) (bS b)) (2 ^ bF b) = 1
    · rw [h1]; exact Or.inr (Or.inl rfl)
    · rw [show mn (nh (bl b) (br b) (nI m) (bS b)) (2 ^ bF b) = 2 by omega]; exact Or.inr (Or.inr rfl)
  · exact Or.inl rfl
theorem nS_brk {b : Bok} {m k : Nat} (hk : k < bS b) (hb : m.testBit k = true) : nS b (m ^^^ 2 ^ k) + 1 = nS b m := by
  have e : nS b (m ^^^ 2 ^ k) = fb_ct (fun j => if j = k then false else m.testBit j) (bS b) := by
    refine fb_ct_cong (fun j _ => ?_)
    rw [xor2_bit]
    by_cases h : j = k
    · subst h; rw [hb, decide_eq_true rfl, if_pos rfl]; rfl
    · rw [decide_eq_false (fun z => h z.symm), if_neg h, Bool.xor_false]
  rw [e]
  have := fb_ct_upd m.testBit false hk
  rw [if_pos hb, if_neg (by decide)] at this
  exact this
theorem nS_brkI {b : Bok} {m k : Nat} (hk : k < bS b) (hb : m.testBit k = true) : nI (nS b (m ^^^ 2 ^ k)) = nI (nS b m) - 1 := by
  rw [← nS_brk hk hb, ← nI_1, Int32.add_sub_cancel]
theorem xor2_xor2 (m k : Nat) : (m ^^^ 2 ^ k) ^^^ 2 ^ k = m := by
  rw [Nat.xor_assoc, Nat.xor_self, Nat.xor_zero]
theorem told_kept {b : Bok} (hW : BW b) {m : Nat} (hm : m < 2 ^ 32) {t k : Nat} (hB : Best (Pm b m) (2 ^ bF b) t) (hp : nP b m ≠ 0) (hk : k < bS b) (hb : m.testBit k = true) : (if bk b k = 0 then !holdsP t (b1 b k) || holdsP t (b2 b k) else if bk b k = 1 then holdsP t (b1 b k) || holdsP t (b2 b k) else if bk b k = 2 then !(holdsP t (b1 b k) && holdsP t (b2 b k)) else holdsP t (b1 b k)) = true := by
  rcases hB with ⟨h, -⟩ | ⟨-, hP, -⟩
  · exact absurd (fb_ct_zero.mpr h) hp
  · have h2 := (PA_kept hW hm (Nat.le_refl _)).mp hP k hk
    rw [hb] at h2
    exact h2
theorem best_lt {b : Bok} {m t : Nat} (hB : Best (Pm b m) (2 ^ bF b) t) (hp : nP b m ≠ 0) : t < 2 ^ bF b ∧ Pm b m t = true := by
  rcases hB with ⟨h, -⟩ | ⟨h1, h2, -⟩
  · exact absurd (fb_ct_zero.mpr h) hp
  · exact ⟨h1, h2⟩
theorem holds_ride0 (p : Nat) : holdsP p 0 = p.testBit 0 := by
  show (p.testBit (0 / 2) == decide (0 % 2 = 0)) = _
  rw [show decide (0 % 2 = 0) = true from rfl]
  cases p.testBit (0 / 2) <;> rfl
theorem best_zero {b : Bok} {m t : Nat} (hB : Best (Pm b m) (2 ^ bF b) t) (hp : nP b m ≠ 0) : decide (0 < nW b m 0) = t.testBit 0 := by
  obtain ⟨h1, h2⟩ := best_lt hB hp
  rcases hB with ⟨h, -⟩ | ⟨-, -, h3⟩
  · exact absurd (fb_ct_zero.mpr h) hp
  cases ht : t.testBit 0 with
  | true => exact decide_eq_true (fb_ct_pos.mpr ⟨t, h1, by rw [h2, holds_ride0, ht]; rfl⟩)
  | false =>
    refine decide_eq_false (fun h => ?_)
    obtain ⟨p, p1, p2⟩ := fb_ct_pos.mp h
    rw [Bool.and_eq_true, holds_ride0] at p2
    rcases h3 p p1 p2.1 with e | ⟨i, i1, i2, i3⟩
    · rw [e, ht] at p2; cases p2.2
    · by_cases e : i = 0
      · subst e; rw [ht] at i1; cases i1
      · have := i3 0 (by omega)
        rw [ht, p2.2] at this; cases this
theorem nP_pow (b : Bok) (m : Nat) : nP b m ≤ 2 ^ bF b := fb_ct_le _ _
theorem shl_pow : ∀ F, F ≤ 5 → (1 : Int32) <<< (nI F &&& 31) = nI (2 ^ F) := by decide +kernel
theorem ordS_ca {b : Bok} {dy j : Nat} (s : Nat × Nat) : s.2 ≤ (ordS b dy j s).2 ∧ (ordS b dy j s).2 ≤ s.2 + 1 := by
  unfold ordS
  split
  · show s.2 ≤ s.2 + _ ∧ s.2 + _ ≤ s.2 + 1
    split <;> omega
  · exact ⟨Nat.le_refl _, Nat.le_succ _⟩
theorem dayS_ca {b : Bok} {dy : Nat} (s : Nat × Nat) : ∀ j, s.2 ≤ (dayS b dy j s).2 ∧ (dayS b dy j s).2 ≤ s.2 + j
  | 0 => ⟨Nat.le_refl _, Nat.le_refl _⟩
  | j + 1 => by
    have h1 := dayS_ca (b := b) (dy := dy) s j
    have h2 := ordS_ca (b := b) (dy := dy) (j := j) (dayS b dy j s)
    show s.2 ≤ (ordS b dy j (dayS b dy j s)).2 ∧ (ordS b dy j (dayS b dy j s)).2 ≤ s.2 + (j + 1)
    omega
theorem Unt.at {b : Bok} {m dy ca : Nat} {v : Int32} (h : Unt b m dy ca v) {k : Nat} (hk : k ≤ 30) : (0 < nP b (daysN b dy k (m, ca)).1 → 0 ≤ v ∧ v ≤ nI k) ∧ (v = nI k → 0 < nP b (daysN b dy k (m, ca)).1) := by
  rcases h with ⟨j, h1, rfl, h2, h3⟩ | ⟨rfl, h1⟩
  · refine ⟨fun hp => ⟨nI_pos' (by omega), ?_⟩, fun e => ?_⟩
    · rw [nI_leq (by omega) (by omega)]
      apply Nat.not_lt.mp
      intro hlt
      rw [h3 k hlt] at hp
      exact absurd hp (Nat.lt_irrefl _)
    · rw [(nI_inj (by omega) (by omega)).mp e] at h2; exact h2
  · refine ⟨fun hp => ?_, fun e => ?_⟩
    · rw [h1 k hk] at hp; exact absurd hp (Nat.lt_irrefl _)
    · exact absurd e.symm (nI_ne1 (Nat.lt_of_le_of_lt hk (by decide)))
theorem fewest_opp {b : Bok} (hW : BW b) {m c d i e : Nat} (hc : c < 2 * bF b) (hd : d < 2 * bF b) (h1 : lv (EB b m) d i c = true) (h2 : ∀ j, j < i → lv (EB b m) d j c = false) (h3 : lv (EB b m) (c ^^^ 1) e (d ^^^ 1) = true) (h4 : ∀ j, j < e → lv (EB b m) (c ^^^ 1) j (d ^^^ 1) = false) : i = e := by
  have hF := hW.1
  have hc1 := x1_lt (bF b) (by omega) c hc
  have hd1 := x1_lt (bF b) (by omega) d hd
  apply Nat.le_antisymm
  · apply Nat.not_lt.mp
    intro h
    have h5 := lv_opp hW (show c ^^^ 1 < 20 by omega) e (d ^^^ 1) (by omega) h3
    rw [x1x1 c (by omega), x1x1 d (by omega)] at h5
    rw [h2 e h] at h5; cases h5
  · apply Nat.not_lt.mp
    intro h
    have h5 := lv_opp hW (show d < 20 by omega) i c (by omega) h1
    rw [h4 i h] at h5; cases h5
