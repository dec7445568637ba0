/-! The fewest to break: both answer alike -/
def unh (l r : Nat → Nat) (p k : Nat) : Bool := !(holdsP p (l k) || holdsP p (r k))
theorem PA_nh {l r : Nat → Nat} {s : Int32} {p : Nat} : ∀ {k : Nat}, PA l r s k p = true ↔ nh l r s k p = 0
  | 0 => ⟨fun _ => rfl, fun _ => rfl⟩
  | k + 1 => by
    show (PA l r s k p && (!bit s k || (holdsP p (l k) || holdsP p (r k)))) = true ↔ nh l r s k p + (if (bit s k && !(holdsP p (l k) || holdsP p (r k))) = true then 1 else 0) = 0
    rw [Bool.and_eq_true, PA_nh]
    cases bit s k <;> cases (holdsP p (l k) || holdsP p (r k)) <;> simp
theorem nh_drop {l r : Nat → Nat} {s : Int32} {p i : Nat} (hi : i < 32) : ∀ {k : Nat}, k ≤ 32 → nh l r s k p = nh l r (withoutI s (nI i)) k p + (if (decide (i < k) && (bit s i && unh l r p i)) = true then 1 else 0)
  | 0, _ => by rw [decide_eq_false (by omega)]; rfl
  | k + 1, hk => by
    show nh l r s k p + (if (bit s k && unh l r p k) = true then 1 else 0) = nh l r (withoutI s (nI i)) k p + (if (bit (withoutI s (nI i)) k && unh l r p k) = true then 1 else 0) + _
    rw [nh_drop hi (show k ≤ 32 by omega), bit_without hi (by omega)]
    by_cases e : k = i
    · rw [e, decide_eq_false (Nat.lt_irrefl i), decide_eq_true rfl, decide_eq_true (show i < i + 1 by omega)]
      simp
    · rw [decide_eq_false e]
      by_cases h : i < k
      · rw [decide_eq_true h, decide_eq_true (show i < k + 1 by omega)]; simp only [Bool.not_false, Bool.and_true]; omega
      · rw [decide_eq_false h, decide_eq_false (show ¬ i < k + 1 by omega)]; simp only [Bool.not_false, Bool.and_true]; omega
theorem nh_pos {l r : Nat → Nat} {s : Int32} {p : Nat} : ∀ {k : Nat}, nh l r s k p ≠ 0 → ∃ i, i < k ∧ bit s i = true ∧ unh l r p i = true
  | 0, h => absurd rfl h
  | k + 1, h => by
    by_cases h0 : nh l r s k p = 0
    · refine ⟨k, by omega, ?_⟩
      have h' : nh l r s k p + (if (bit s k && unh l r p k) = true then 1 else 0) ≠ 0 := h
      rw [h0] at h'
      cases hb : bit s k <;> cases hu : unh l r p k <;> simp_all
    · obtain ⟨i, h1, h2⟩ := nh_pos h0
      exact ⟨i, by omega, h2⟩
def Any (l r : Nat → Nat) (F S : Nat) (s : Int32) : Prop := ∃ p, p < 2 ^ F ∧ nh l r s S p = 0
def One (l r : Nat → Nat) (F S : Nat) (s : Int32) (i : Nat) : Prop := ∃ a, i ≤ a ∧ a < S ∧ bit s a = true ∧ Any l r F S (withoutI s (nI a))
def Two (l r : Nat → Nat) (F S : Nat) (s : Int32) (i : Nat) : Prop := ∃ a, i ≤ a ∧ a < S ∧ bit s a = true ∧ ∃ b, b < a ∧ bit (withoutI s (nI a)) b = true ∧ Any l r F S (withoutI (withoutI s (nI a)) (nI b))
theorem le1_iff {l r : Nat → Nat} {F S : Nat} {s : Int32} (hS : S ≤ 20) : (∃ p, p < 2 ^ F ∧ nh l r s S p ≤ 1) ↔ (Any l r F S s ∨ One l r F S s 0) := by
  refine ⟨fun ⟨p, h1, h2⟩ => ?_, fun h => ?_⟩
  · by_cases h0 : nh l r s S p = 0
    · exact Or.inl ⟨p, h1, h0⟩
    · obtain ⟨a, a1, a2, a3⟩ := nh_pos h0
      have := nh_drop (l := l) (r := r) (s := s) (p := p) (i := a) (by omega) (k := S) (by omega)
      rw [decide_eq_true a1, a2, a3] at this
      simp only [Bool.and_true, if_true] at this
      exact Or.inr ⟨a, Nat.zero_le _, a1, a2, p, h1, by omega⟩
  · rcases h with ⟨p, h1, h2⟩ | ⟨a, -, a1, a2, p, h1, h2⟩
    · exact ⟨p, h1, by omega⟩
    · have := nh_drop (l := l) (r := r) (s := s) (p := p) (i := a) (by omega) (k := S) (by omega)
      exact ⟨p, h1, by rw [this, h2]; split <;> omega⟩
theorem le2_iff {l r : Nat → Nat} {F S : Nat} {s : Int32} (hS : S ≤ 20) : (∃ p, p < 2 ^ F ∧ nh l r s S p ≤ 2) ↔ (Any l r F S s ∨ One l r F S s 0 ∨ Two l r F S s 0) := by
  refine ⟨fun ⟨p, h1, h2⟩ => ?_, fun h => ?_⟩
  · by_cases hle : nh l r s S p ≤ 1
    · rcases (le1_iff hS).mp ⟨p, h1, hle⟩ with h | h
      · exact Or.inl h
      · exact Or.inr (Or.inl h)
    · obtain ⟨a, a1, a2, a3⟩ := nh_pos (show nh l r s S p ≠ 0 by omega)
      have da := nh_drop (l := l) (r := r) (s := s) (p := p) (i := a) (by omega) (k := S) (by omega)
      rw [decide_eq_true a1, a2, a3] at da
      simp only [Bool.and_true, if_true] at da
      obtain ⟨b, b1, b2, b3⟩ := nh_pos (l := l) (r := r) (s := withoutI s (nI a)) (p := p) (k := S) (by omega)
      have b2' := b2
      rw [bit_without (by omega) (by omega), Bool.and_eq_true] at b2'
      have hab : b ≠ a := fun e => by rw [e, decide_eq_true rfl] at b2'; exact absurd b2'.2 (by decide)
      have db := nh_drop (l := l) (r := r) (s := withoutI s (nI a)) (p := p) (i := b) (by omega) (k := S) (by omega)
      rw [decide_eq_true b1, b2, b3] at db
      simp only [Bool.and_true, if_true] at db
      rcases Nat.lt_or_ge b a with q | q
      · exact Or.inr (Or.inr ⟨a, Nat.zero_le _, a1, a2, b, q, b2, p, h1, by omega⟩)
      · have eb := nh_drop (l := l) (r := r) (s := s) (p := p) (i := b) (by omega) (k := S) (by omega)
        rw [decide_eq_true b1, b2'.1, b3] at eb
        simp only [Bool.and_true, if_true] at eb
        have c2 : bit (withoutI s (nI b)) a = true := by rw [bit_without (by omega) (by omega), a2, decide_eq_false (fun e => hab e.symm)]; rfl
        have ea := nh_drop (l := l) (r := r) (s := withoutI s (nI b)) (p := p) (i := a) (by omega) (k := S) (by omega)
        rw [decide_eq_true a1, c2, a3] at ea
        simp only [Bool.and_true, if_true] at ea
        exact Or.inr (Or.inr ⟨b, Nat.zero_le _, b1, b2'.1, a, by omega, c2, p, h1, by omega⟩)
  · rcases h with h | h | ⟨a, -, a1, a2, b, b1, b2, p, h1, h2⟩
    · obtain ⟨p, p1, p2⟩ := (le1_iff hS).mpr (Or.inl h); exact ⟨p, p1, by omega⟩
    · obtain ⟨p, p1, p2⟩ := (le1_iff hS).mpr (Or.inr h); exact ⟨p, p1, by omega⟩
    · have d1 := nh_drop (l := l) (r := r) (s := s) (p := p) (i := a) (by omega) (k := S) (by omega)
      have d2 := nh_drop (l := l) (r := r) (s := withoutI s (nI a)) (p := p) (i := b) (by omega) (k := S) (by omega)
      refine ⟨p, h1, ?_⟩
      rw [d1, d2, h2]
      split <;> split <;> omega
theorem without_same {s : Int32} {i : Nat} (hi : i < 32) : withoutI s (nI i) = s ↔ bit s i = false := by
  refine ⟨fun h => ?_, fun h => bit_ext (fun j hj => ?_)⟩
  · have := bit_without (v := s) hi hi
    rw [h, decide_eq_true rfl, Bool.not_true, Bool.and_false] at this
    exact this
  · rw [bit_without hi hj]
    by_cases e : j = i
    · rw [e, h]; rfl
    · rw [decide_eq_false e]; simp
