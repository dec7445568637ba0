/-! No way is as long as there are claims; the relaxation that finds ways -/
theorem lv_mem {F S : Nat} {l r : Nat → Nat} {s : Int32} (hF : F ≤ 10) (h : ∀ k, k < S → l k < 2 * F ∧ r k < 2 * F) {d : Nat} (hd : d < 2 * F) : ∀ {j c : Nat}, lv (stA l r s S) d j c = true → c < 2 * F
  | 0, c, e => by
    have : c = d := of_decide_eq_true e
    omega
  | j + 1, c, e => by
    rcases lv_succ.mp e with e | ⟨a, _, _, e⟩
    · exact lv_mem hF h hd e
    · exact (st_lt hF h _ (Nat.le_refl _) e).2
theorem lv_short {F S : Nat} {l r : Nat → Nat} {s : Int32} (hF : F ≤ 10) (h : ∀ k, k < S → l k < 2 * F ∧ r k < 2 * F) {d c : Nat} (hd : d < 2 * F) (hc : c < 2 * F) (e : RR F S l r s d c = true) : lv (stA l r s S) d (2 * F - 1) c = true := by
  have e20 := (RR_lv hF h (show c < 20 by omega) (show d < 20 by omega)).mp e
  rcases lv_grow (E := stA l r s S) (show d < 20 by omega) (2 * F - 1) with ⟨i, i1, i2⟩ | hg
  · have h1 : lv (stA l r s S) d i c = true := by
      have := lv_stable i2 20 c (by omega)
      rw [← this]
      exact lv_le (by omega) e20
    exact lv_le i1 h1
  · exfalso
    have hz : fb_ct (fun k => lv (stA l r s S) d (2 * F - 1 + 1) (2 * F + k)) (20 - 2 * F) = 0 := fb_ct_zero.mpr (fun k _ => by
      cases hk : lv (stA l r s S) d (2 * F - 1 + 1) (2 * F + k) with
      | false => rfl
      | true => have := lv_mem hF h hd hk; omega)
    have hs := fb_ct_split (lv (stA l r s S) d (2 * F - 1 + 1)) (2 * F) (20 - 2 * F)
    rw [show 2 * F + (20 - 2 * F) = 20 by omega] at hs
    have := fb_ct_le (lv (stA l r s S) d (2 * F - 1 + 1)) (2 * F)
    omega
def rlx (D : Nat → Nat) (u w : Nat) : Nat → Nat := fun c => if c = w then min (D w) (D u + 1) else D c
def stR (b : Bok) (m s : Nat) (D : Nat → Nat) : Nat → Nat := if m.testBit s then rlx (rlx D (bl b s ^^^ 1) (br b s)) (br b s ^^^ 1) (bl b s) else D
def passR (b : Bok) (m : Nat) : Nat → (Nat → Nat) → Nat → Nat
  | 0, D => D
  | s + 1, D => stR b m s (passR b m s D)
def runR (b : Bok) (m : Nat) : Nat → (Nat → Nat) → Nat → Nat
  | 0, D => D
  | t + 1, D => passR b m (bS b) (runR b m t D)
def D0 (st : Nat) : Nat → Nat := fun c => if c = st then 0 else 999
theorem rlx_le (D : Nat → Nat) (u w c : Nat) : rlx D u w c ≤ D c := by
  unfold rlx; split
  · rename_i e; subst e; exact Nat.min_le_left _ _
  · exact Nat.le_refl _
theorem rlx_to (D : Nat → Nat) (u w : Nat) : rlx D u w w ≤ D u + 1 := by unfold rlx; rw [if_pos rfl]; exact Nat.min_le_right _ _
theorem stR_le (b : Bok) (m s : Nat) (D : Nat → Nat) (c : Nat) : stR b m s D c ≤ D c := by
  unfold stR; split
  · exact Nat.le_trans (rlx_le _ _ _ _) (rlx_le _ _ _ _)
  · exact Nat.le_refl _
theorem passR_le (b : Bok) (m : Nat) (D : Nat → Nat) (c : Nat) : ∀ s, passR b m s D c ≤ D c
  | 0 => Nat.le_refl _
  | s + 1 => Nat.le_trans (stR_le _ _ _ _ _) (passR_le b m D c s)
theorem runR_le (b : Bok) (m : Nat) (D : Nat → Nat) (c : Nat) : ∀ t, runR b m t D c ≤ D c
  | 0 => Nat.le_refl _
  | t + 1 => Nat.le_trans (passR_le _ _ _ _ _) (runR_le b m D c t)
abbrev RB (b : Bok) (m : Nat) : Mat := RR (bF b) (bS b) (bl b) (br b) (nI m)
abbrev EB (b : Bok) (m : Nat) : Mat := stA (bl b) (br b) (nI m) (bS b)
theorem BW.lr {b : Bok} (hW : BW b) : ∀ k, k < bS b → bl b k < 2 * bF b ∧ br b k < 2 * bF b := by
  intro k hk
  have h := hW.2.2.1 k hk
  have hF := hW.1.2
  have x1 := x1_lt (bF b) (by omega) (b1 b k) h.2.1
  have x2 := x1_lt (bF b) (by omega) (b2 b k) h.2.2.1
  unfold bl br
  constructor
  · split
    · exact x1
    · exact h.2.1
  · split
    · exact x2
    · exact h.2.2.1
theorem st_edge {b : Bok} {m : Nat} (hm : m < 2 ^ 32) {c d : Nat} : ∀ {n : Nat}, stA (bl b) (br b) (nI m) n c d = true ↔ ∃ s, s < n ∧ m.testBit s = true ∧ ((c = bl b s ^^^ 1 ∧ d = br b s) ∨ (c = br b s ^^^ 1 ∧ d = bl b s))
  | 0 => ⟨fun h => (by cases h), fun ⟨s, hs, _⟩ => absurd hs (by omega)⟩
  | n + 1 => by
    rw [stA, Bool.or_eq_true, st_edge hm, Bool.and_eq_true, bit_nI hm, Bool.or_eq_true, Bool.and_eq_true, Bool.and_eq_true]
    simp only [decide_eq_true_eq]
    constructor
    · rintro (⟨s, h1, h2⟩ | h)
      · exact ⟨s, by omega, h2⟩
      · exact ⟨n, by omega, h⟩
    · rintro ⟨s, h1, h2⟩
      by_cases e : s = n
      · subst e; exact Or.inr h2
      · exact Or.inl ⟨s, by omega, h2⟩
/-- what is found is so -/
def SnD (b : Bok) (m st : Nat) (D : Nat → Nat) : Prop := ∀ c, D c ≤ 999 ∧ (D c < 999 → RB b m st c = true)
theorem rlx_sn {b : Bok} (hW : BW b) {m st u w : Nat} {D : Nat → Nat} (h : SnD b m st D) (he : EB b m u w = true) : SnD b m st (rlx D u w) := by
  intro c
  unfold rlx
  split
  · rename_i e
    subst e
    refine ⟨Nat.le_trans (Nat.min_le_left _ _) (h c).1, fun hl => ?_⟩
    by_cases h1 : D c < 999
    · exact (h c).2 h1
    · have : D u + 1 < 999 := by
        rcases Nat.le_total (D c) (D u + 1) with q | q
        · rw [Nat.min_eq_left q] at hl; omega
        · rw [Nat.min_eq_right q] at hl; exact hl
      exact RR_trans (by have := hW.1.2; omega) hW.lr ((h u).2 (by omega)) (RR_step he)
  · exact h c
theorem stR_sn {b : Bok} (hW : BW b) {m st s : Nat} (hm : m < 2 ^ 32) (hs : s < bS b) {D : Nat → Nat} (h : SnD b m st D) : SnD b m st (stR b m s D) := by
  unfold stR
  split
  · rename_i hb
    exact rlx_sn hW (rlx_sn hW h ((st_edge hm).mpr ⟨s, hs, hb, Or.inl ⟨rfl, rfl⟩⟩)) ((st_edge hm).mpr ⟨s, hs, hb, Or.inr ⟨rfl, rfl⟩⟩)
  · exact h
theorem passR_sn {b : Bok} (hW : BW b) {m st : Nat} (hm : m < 2 ^ 32) {D : Nat → Nat} (h : SnD b m st D) : ∀ s, s ≤ bS b → SnD b m st (passR b m s D)
  | 0, _ => h
  | s + 1, hs => stR_sn hW hm (by omega) (passR_sn hW hm h s (by omega))
theorem runR_sn {b : Bok} (hW : BW b) {m st : Nat} (hm : m < 2 ^ 32) {D : Nat → Nat} (h : SnD b m st D) : ∀ t, SnD b m st (runR b m t D)
  | 0 => h
  | t + 1 => passR_sn hW hm (runR_sn hW hm h t) _ (Nat.le_refl _)
theorem D0_sn {b : Bok} {m st : Nat} : SnD b m st (D0 st) := by
  intro c
  unfold D0
  split
  · rename_i e; subst e; exact ⟨by omega, fun _ => RR_refl c⟩
  · exact ⟨by omega, fun h => absurd h (by omega)⟩
/-- what is so is found -/
theorem pass_edge {b : Bok} {m : Nat} {D : Nat → Nat} {s u w : Nat} (hb : m.testBit s = true) (h : (u = bl b s ^^^ 1 ∧ w = br b s) ∨ (u = br b s ^^^ 1 ∧ w = bl b s)) : ∀ n, s < n → passR b m n D w ≤ D u + 1
  | 0, hn => absurd hn (by omega)
  | n + 1, hn => by
    by_cases e : s = n
    · subst e
      rw [passR, stR, if_pos hb]
      have hle := passR_le b m D u s
      rcases h with ⟨rfl, rfl⟩ | ⟨rfl, rfl⟩
      · refine Nat.le_trans (rlx_le _ _ _ _) (Nat.le_trans (rlx_to _ _ _) ?_)
        omega
      · refine Nat.le_trans (rlx_to _ _ _) ?_
        have := rlx_le (passR b m s D) (bl b s ^^^ 1) (br b s) (br b s ^^^ 1)
        omega
    · exact Nat.le_trans (stR_le _ _ _ _ _) (pass_edge hb h n (by omega))
theorem run_lv {b : Bok} {m st : Nat} (hm : m < 2 ^ 32) : ∀ (t c : Nat), lv (EB b m) st t c = true → runR b m t (D0 st) c ≤ t
  | 0, c, e => by
    have : c = st := of_decide_eq_true e
    subst this
    show D0 c c ≤ 0
    unfold D0; rw [if_pos rfl]; omega
  | t + 1, c, e => by
    rcases lv_succ.mp e with e | ⟨a, _, e1, e2⟩
    · exact Nat.le_trans (passR_le _ _ _ _ _) (Nat.le_trans (run_lv hm t c e) (by omega))
    · obtain ⟨s, h1, h2, h3⟩ := (st_edge hm).mp e2
      have := pass_edge (D := runR b m t (D0 st)) h2 h3 (bS b) h1
      have := run_lv hm t a e1
      show passR b m (bS b) (runR b m t (D0 st)) c ≤ t + 1
      omega
def fromD (b : Bok) (m st c : Nat) : Nat := if 99 < runR b m (2 * bF b) (D0 st) c then 999 else runR b m (2 * bF b) (D0 st) c
theorem from_iff {b : Bok} (hW : BW b) {m st c : Nat} (hm : m < 2 ^ 32) (hs : st < 2 * bF b) (hc : c < 2 * bF b) : fromD b m st c ≤ 999 ∧ (fromD b m st c < 999 ↔ RB b m st c = true) := by
  have sn := runR_sn hW hm (D0_sn (b := b) (m := m) (st := st)) (2 * bF b) c
  unfold fromD
  split
  · rename_i h
    refine ⟨Nat.le_refl _, fun z => absurd z (by omega), fun hr => ?_⟩
    exfalso
    have h1 := lv_short (by have := hW.1.2; omega) hW.lr hs hc hr
    have h2 := run_lv hm (2 * bF b) c (lv_le (by omega) h1)
    have := hW.1.2
    omega
  · rename_i h
    exact ⟨sn.1, fun _ => sn.2 (by omega), fun _ => by omega⟩
