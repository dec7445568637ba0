/-! What follows: rows of bits, the closure of both sides -/
abbrev Mat : Type := Nat → Nat → Bool
def Rows (q n : Nat) (y : XS) (A : Mat) : Prop := ∀ c, c < n → ∀ d, d < 32 → bit (y.1 q c) d = A c d
def wm (m : Nat) (A : Mat) : Mat := fun c d => A c d || (A c m && A m d)
def clo (A : Mat) : Nat → Mat
  | 0 => A
  | m + 1 => wm m (clo A m)
def upQ (q m c : Nat) (y : XS) : XS := if bit (y.1 q c) m then setI y q c (y.1 q c ||| y.1 q m) else y
theorem clsB_up {m c : Nat} (hm : m < 32) (y : XS) : clsB m c y = upQ 39 m c y := by unfold clsB upQ; rw [hasB_bit hm]
theorem itP_cong {α : Type} {f g : Nat → α → α} : ∀ {n : Nat} {y : α}, (∀ j, j < n → ∀ y, f j y = g j y) → itP f n y = itP g n y
  | 0, _, _ => rfl
  | n + 1, y, h => by
    show f n (itP f n y) = g n (itP g n y)
    rw [h n (Nat.lt_succ_self n), itP_cong (fun j hj y => h j (Nat.lt_succ_of_lt hj) y)]
theorem itP_rel {α : Type} {f : Nat → α → α} {P : Nat → α → Prop} : ∀ {n : Nat} {y : α}, P 0 y → (∀ j, j < n → ∀ y, P j y → P (j + 1) (f j y)) → P n (itP f n y)
  | 0, _, h, _ => h
  | n + 1, y, h, hs => hs n (Nat.lt_succ_self n) _ (itP_rel h (fun j hj y hy => hs j (Nat.lt_succ_of_lt hj) y hy))
theorem rdI_ne {x : XS} {q k q' k' : Nat} {v : Int32} (h : q' ≠ q) : (setI x q k v).1 q' k' = x.1 q' k' := if_neg (fun z => h z.1)
theorem rdI_nk {x : XS} {q k q' k' : Nat} {v : Int32} (h : k' ≠ k) : (setI x q k v).1 q' k' = x.1 q' k' := if_neg (fun z => h z.2)
theorem rdI_eq {x : XS} {q k : Nat} {v : Int32} : (setI x q k v).1 q k = v := if_pos ⟨rfl, rfl⟩
theorem up_1 {q m c : Nat} {y : XS} {q' k : Nat} (h : q' ≠ q) : (upQ q m c y).1 q' k = y.1 q' k := by
  unfold upQ; split
  · exact rdI_ne h
  · rfl
theorem up_2 {q m c : Nat} {y : XS} : (upQ q m c y).2 = y.2 := by unfold upQ; split <;> rfl
theorem up_rows {q n m : Nat} {A : Mat} (hn : n ≤ 32) (hm : m < n) {y : XS} (h : Rows q n y A) : Rows q n (itP (upQ q m) n y) (wm m A) := by
  have key : ∀ c, c < n → ∀ d, d < 32 → bit ((itP (upQ q m) n y).1 q c) d = if c < n then wm m A c d else A c d := by
    refine itP_rel (P := fun k (y : XS) => ∀ c, c < n → ∀ d, d < 32 → bit (y.1 q c) d = if c < k then wm m A c d else A c d) (fun c hc d hd => by rw [if_neg (Nat.not_lt_zero c)]; exact h c hc d hd) ?_
    intro k hk y hy c hc d hd
    have hmr : ∀ d, d < 32 → bit (y.1 q m) d = A m d := fun d hd => by
      rw [hy m hm d hd]
      split
      · unfold wm; cases A m d <;> cases A m m <;> rfl
      · rfl
    by_cases e : c = k
    · subst e
      have hkm : bit (y.1 q c) m = A c m := by rw [hy c hk m (by omega), if_neg (Nat.lt_irrefl c)]
      rw [if_pos (Nat.lt_succ_self c)]
      unfold upQ
      rw [hkm]
      cases hA : A c m with
      | true => rw [if_pos rfl, rdI_eq, bit_or, hmr d hd, hy c hc d hd, if_neg (Nat.lt_irrefl c)]; unfold wm; rw [hA, Bool.true_and]
      | false => rw [if_neg (by decide), hy c hc d hd, if_neg (Nat.lt_irrefl c)]; unfold wm; rw [hA, Bool.false_and, Bool.or_false]
    · have hu : (upQ q m k y).1 q c = y.1 q c := by
        unfold upQ; split
        · exact rdI_nk e
        · rfl
      rw [hu, hy c hc d hd]
      by_cases h1 : c < k
      · rw [if_pos h1, if_pos (by omega)]
      · rw [if_neg h1, if_neg (by omega)]
  intro c hc d hd
  rw [key c hc d hd, if_pos hc]
theorem clo_rows {q n : Nat} {A : Mat} (hn : n ≤ 32) {y : XS} (h : Rows q n y A) : ∀ k, k ≤ n → Rows q n (itP (fun m => itP (upQ q m) n) k y) (clo A k)
  | 0, _ => h
  | k + 1, hk => up_rows hn (by omega) (clo_rows hn h k (by omega))
theorem small20 : ∀ c, c < 20 → (¬ nI c < 0) ∧ (¬ nI 20 ≤ nI c) ∧ (nI c).toNatClampNeg = c ∧ nI c ^^^ 1 = nI (c ^^^ 1) ∧ c ^^^ 1 < 20 := by decide +kernel
theorem x1_lt : ∀ F, F < 11 → ∀ c, c < 2 * F → c ^^^ 1 < 2 * F := by decide +kernel
theorem set_rows {q n c0 d0 : Nat} {A : Mat} {y : XS} (hd0 : d0 < 32) (h : Rows q n y A) : Rows q n (setI y q c0 (withI (y.1 q c0) (nI d0))) (fun c d => A c d || (decide (c = c0) && decide (d = d0))) := by
  intro c hc d hd
  by_cases e : c = c0
  · subst e
    rw [rdI_eq, bit_with hd0 hd, h c hc d hd]
    simp
  · rw [rdI_nk e, h c hc d hd]
    simp [e]
/-- by which statements of the first k, of those that stand, a claim follows from another -/
def stA (l r : Nat → Nat) (s : Int32) : Nat → Mat
  | 0 => fun _ _ => false
  | k + 1 => fun c d => stA l r s k c d || (bit s k && ((decide (c = l k ^^^ 1) && decide (d = r k)) || (decide (c = r k ^^^ 1) && decide (d = l k))))
def A0 (l r : Nat → Nat) (s : Int32) (S : Nat) : Mat := fun c d => decide (c = d) || stA l r s S c d
def RR (F S : Nat) (l r : Nat → Nat) (s : Int32) : Mat := clo (A0 l r s S) (2 * F)
def fst (p : Nat → Bool) : Nat → Nat → Nat
  | 0, i => i
  | n + 1, i => if p i then i else fst p n (i + 1)
def lst (A : Mat) (c : Nat) : Nat := fst (fun i => A i c && A c i) 20 0
def pN (F : Nat) (A : Mat) : Nat := fb_ct (fun c => decide (lst A c = c)) (2 * F)
def BkX (x : XS) (F S : Nat) (l r : Nat → Nat) : Prop := F ≤ 10 ∧ S ≤ 20 ∧ x.1 21 0 = nI F ∧ x.1 21 1 = nI S ∧ (∀ k, k < S → l k < 2 * F ∧ r k < 2 * F) ∧ ∀ k, k < S → x.1 25 k = nI (l k) ∧ x.1 26 k = nI (r k)
def WebC (x : XS) (F S : Nat) (l r : Nat → Nat) (s : Int32) : Prop := x.1 37 3 = nI (2 * F) ∧ Rows 38 (2 * F) x (stA l r s S) ∧ Rows 39 (2 * F) x (RR F S l r s) ∧ x.1 37 4 = nI (pN F (RR F S l r s))
def FolC (z : XS) (F S : Nat) (l r : Nat → Nat) (s : Int32) : Prop := Rows 9 20 z (RR F S l r s) ∧ z.1 0 23 = nI (pN F (RR F S l r s))
/-! the matrix by itself -/
theorem st_lt {F S : Nat} {l r : Nat → Nat} {s : Int32} (hF : F ≤ 10) (h : ∀ k, k < S → l k < 2 * F ∧ r k < 2 * F) {c d : Nat} : ∀ k, k ≤ S → stA l r s k c d = true → c < 2 * F ∧ d < 2 * F
  | 0, _, e => by cases e
  | k + 1, hk, e => by
    have hx := x1_lt F (by omega)
    obtain ⟨h1, h2⟩ := h k (by omega)
    simp only [stA, Bool.or_eq_true, Bool.and_eq_true, decide_eq_true_eq] at e
    rcases e with e | ⟨-, ⟨rfl, rfl⟩ | ⟨rfl, rfl⟩⟩
    · exact st_lt hF h k (by omega) e
    · exact ⟨hx _ h1, h2⟩
    · exact ⟨hx _ h2, h1⟩
theorem clo_out {F S : Nat} {l r : Nat → Nat} {s : Int32} (hF : F ≤ 10) (h : ∀ k, k < S → l k < 2 * F ∧ r k < 2 * F) : ∀ (k c d : Nat), 2 * F ≤ c ∨ 2 * F ≤ d → clo (A0 l r s S) k c d = decide (c = d)
  | 0, c, d, ho => by
    show (decide (c = d) || stA l r s S c d) = decide (c = d)
    cases e : stA l r s S c d with
    | false => rw [Bool.or_false]
    | true => have := st_lt hF h S (Nat.le_refl _) e; omega
  | k + 1, c, d, ho => by
    show (clo (A0 l r s S) k c d || (clo (A0 l r s S) k c k && clo (A0 l r s S) k k d)) = decide (c = d)
    rw [clo_out hF h k c d ho]
    by_cases e : c = d
    · simp [e]
    · rw [decide_eq_false e, Bool.false_or]
      rcases ho with ho | ho
      · rw [clo_out hF h k c k (Or.inl ho)]
        by_cases e2 : c = k
        · subst e2
          rw [clo_out hF h c c d (Or.inl ho), decide_eq_false e, Bool.and_false]
        · rw [decide_eq_false e2, Bool.false_and]
      · rw [clo_out hF h k k d (Or.inr ho)]
        by_cases e2 : k = d
        · subst e2
          rw [clo_out hF h k c k (Or.inr ho), decide_eq_false e, Bool.false_and]
        · rw [decide_eq_false e2, Bool.and_false]
theorem clo_more {F S : Nat} {l r : Nat → Nat} {s : Int32} (hF : F ≤ 10) (h : ∀ k, k < S → l k < 2 * F ∧ r k < 2 * F) (c d : Nat) : ∀ k, clo (A0 l r s S) (2 * F + k) c d = RR F S l r s c d
  | 0 => rfl
  | k + 1 => by
    show (clo (A0 l r s S) (2 * F + k) c d || (clo (A0 l r s S) (2 * F + k) c (2 * F + k) && clo (A0 l r s S) (2 * F + k) (2 * F + k) d)) = _
    rw [clo_out hF h (2 * F + k) c (2 * F + k) (Or.inr (by omega))]
    by_cases e : c = 2 * F + k
    · rw [← e, decide_eq_true rfl, Bool.true_and, Bool.or_self, e]
      exact clo_more hF h (2 * F + k) d k
    · rw [decide_eq_false e, Bool.false_and, Bool.or_false]
      exact clo_more hF h c d k
/-- the closure grows, is reflexive, and closed -/
theorem clo_le {A : Mat} {c d : Nat} : ∀ k, A c d = true → clo A k c d = true
  | 0, h => h
  | k + 1, h => by
    show (clo A k c d || _) = true
    rw [clo_le k h, Bool.true_or]
theorem clo_cl {A : Mat} : ∀ (m k : Nat), k < m → ∀ c d, clo A m c k = true → clo A m k d = true → clo A m c d = true
  | 0, k, hk, _, _, _, _ => absurd hk (Nat.not_lt_zero k)
  | m + 1, k, hk, c, d, h1, h2 => by
    have ih := clo_cl (A := A) m
    simp only [clo, wm, Bool.or_eq_true, Bool.and_eq_true] at h1 h2 ⊢
    by_cases e : k = m
    · subst e
      have g1 : clo A k c k = true := by rcases h1 with h | h; exact h; exact h.1
      have g2 : clo A k k d = true := by rcases h2 with h | h; exact h; exact h.2
      exact Or.inr ⟨g1, g2⟩
    · have hk' : k < m := by omega
      rcases h1 with h1 | ⟨h1, h3⟩
      · rcases h2 with h2 | ⟨h2, h4⟩
        · exact Or.inl (ih k hk' c d h1 h2)
        · exact Or.inr ⟨ih k hk' c m h1 h2, h4⟩
      · rcases h2 with h2 | ⟨h2, h4⟩
        · exact Or.inr ⟨h1, ih k hk' m d h3 h2⟩
        · exact Or.inr ⟨h1, h4⟩
theorem RR_refl {F S : Nat} {l r : Nat → Nat} {s : Int32} (c : Nat) : RR F S l r s c c = true := clo_le _ (by show (decide (c = c) || _) = true; rw [decide_eq_true rfl, Bool.true_or])
theorem RR_step {F S : Nat} {l r : Nat → Nat} {s : Int32} {c d : Nat} (h : stA l r s S c d = true) : RR F S l r s c d = true := clo_le _ (by show (_ || stA l r s S c d) = true; rw [h, Bool.or_true])
theorem RR_trans {F S : Nat} {l r : Nat → Nat} {s : Int32} (hF : F ≤ 10) (h : ∀ k, k < S → l k < 2 * F ∧ r k < 2 * F) {c k d : Nat} (h1 : RR F S l r s c k = true) (h2 : RR F S l r s k d = true) : RR F S l r s c d = true := by
  by_cases hk : k < 2 * F
  · exact clo_cl _ k hk c d h1 h2
  · have e : c = k := by
      have := clo_out hF h (s := s) (2 * F) c k (Or.inr (by omega))
      unfold RR at h1
      rw [this] at h1
      exact of_decide_eq_true h1
    rw [e]; exact h2
