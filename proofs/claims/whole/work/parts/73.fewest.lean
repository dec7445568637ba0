/-! The fewest to break: both answer alike -/
def unh (l r : Nat → Nat) (p k : Nat) : Bool := !(holdsP p (l k) || holdsP p (r k))
theorem PA_nh {l r : Nat → Nat} {s : Int32} {p : Nat} : ∀ {k : Nat}, PA l r s k p = true ↔ nh l r s k p = 0
  | 0 => ⟨fun _ => rfl, fun _ => rfl⟩
  | k + 1 => by
    show (PA l r s k p && (!bit s k || (holdsP p (l k) || holdsP p (r k)))) = true ↔ nh l r s k p + (if (bit s k && !(holdsP p (l k) || holdsP p (r k))) = true then 1 else 0) = 0
    rw [Bool.and_eq_true, PA_nh]
    cases bit s k <;> cases (holdsP p (l k) || holdsP p (r k)) <;> simp
theorem nh_drop {l r : Nat → Nat} {s : Int32} {p i : Nat} (hi : i < 32) : ∀ {k : Nat}, k ≤ 32 → nh l r s k p = nh l r (withoutI s (nI i)) k p + (if (decide (i < k) && (bit s i && unh l r p i)) = true then 1 else 0)
  | 0, _ => by rw [decide_eq_false (by omega)]; rfl
  | k + 1, hk => by
    show nh l r s k p + (if (bit s k && unh l r p k) = true then 1 else 0) = nh l r (withoutI s (nI i)) k p + (if (bit (withoutI s (nI i)) k && unh l r p k) = true then 1 else 0) + _
    rw [nh_drop hi (show k ≤ 32 by omega), bit_without hi (by omega)]
    by_cases e : k = i
    · rw [e, decide_eq_false (Nat.lt_irrefl i), decide_eq_true rfl, decide_eq_true (show i < i + 1 by omega)]
      simp
    · rw [decide_eq_false e]
      by_cases h : i < k
      · rw [decide_eq_true h, decide_eq_true (show i < k + 1 by omega)]; simp only [Bool.not_false, Bool.and_true]; omega
      · rw [decide_eq_false h, decide_eq_false (show ¬ i < k + 1 by omega)]; simp only [Bool.not_false, Bool.and_true]; omega
theorem nh_pos {l r : Nat → Nat} {s : Int32} {p : Nat} : ∀ {k : Nat}, nh l r s k p ≠ 0 → ∃ i, i < k ∧ bit s i = true ∧ unh l r p i = true
  | 0, h => absurd rfl h
  | k + 1, h => by
    by_cases h0 : nh l r s k p = 0
    · refine ⟨k, by omega, ?_⟩
      have h' : nh l r s k p + (if (bit s k && unh l r p k) = true then 1 else 0) ≠ 0 := h
      rw [h0] at h'
      cases hb : bit s k <;> cases hu : unh l r p k <;> simp_all
    · obtain ⟨i, h1, h2⟩ := nh_pos h0
      exact ⟨i, by omega, h2⟩
def Any (l r : Nat → Nat) (F S : Nat) (s : Int32) : Prop := ∃ p, p < 2 ^ F ∧ nh l r s S p = 0
def One (l r : Nat → Nat) (F S : Nat) (s : Int32) (i : Nat) : Prop := ∃ a, i ≤ a ∧ a < S ∧ bit s a = true ∧ Any l r F S (withoutI s (nI a))
def Two (l r : Nat → Nat) (F S : Nat) (s : Int32) (i : Nat) : Prop := ∃ a, i ≤ a ∧ a < S ∧ bit s a = true ∧ ∃ b, b < a ∧ bit (withoutI s (nI a)) b = true ∧ Any l r F S (withoutI (withoutI s (nI a)) (nI b))
theorem any_iff {z : XS} {F S : Nat} {l r : Nat → Nat} {s : Int32} (hB : BkZ z F S l r) : anyF z s = true ↔ Any l r F S s := by
  rw [anyF_eq hB, fb_ct_pos]
  exact ⟨fun ⟨p, h1, h2⟩ => ⟨p, h1, PA_nh.mp h2⟩, fun ⟨p, h1, h2⟩ => ⟨p, h1, PA_nh.mpr h2⟩⟩
theorem le1_iff {l r : Nat → Nat} {F S : Nat} {s : Int32} (hS : S ≤ 20) : (∃ p, p < 2 ^ F ∧ nh l r s S p ≤ 1) ↔ (Any l r F S s ∨ One l r F S s 0) := by
  refine ⟨fun ⟨p, h1, h2⟩ => ?_, fun h => ?_⟩
  · by_cases h0 : nh l r s S p = 0
    · exact Or.inl ⟨p, h1, h0⟩
    · obtain ⟨a, a1, a2, a3⟩ := nh_pos h0
      have := nh_drop (l := l) (r := r) (s := s) (p := p) (i := a) (by omega) (k := S) (by omega)
      rw [decide_eq_true a1, a2, a3] at this
      simp only [Bool.and_true, if_true] at this
      exact Or.inr ⟨a, Nat.zero_le _, a1, a2, p, h1, by omega⟩
  · rcases h with ⟨p, h1, h2⟩ | ⟨a, -, a1, a2, p, h1, h2⟩
    · exact ⟨p, h1, by omega⟩
    · have := nh_drop (l := l) (r := r) (s := s) (p := p) (i := a) (by omega) (k := S) (by omega)
      exact ⟨p, h1, by rw [this, h2]; split <;> omega⟩
theorem le2_iff {l r : Nat → Nat} {F S : Nat} {s : Int32} (hS : S ≤ 20) : (∃ p, p < 2 ^ F ∧ nh l r s S p ≤ 2) ↔ (Any l r F S s ∨ One l r F S s 0 ∨ Two l r F S s 0) := by
  refine ⟨fun ⟨p, h1, h2⟩ => ?_, fun h => ?_⟩
  · by_cases hle : nh l r s S p ≤ 1
    · rcases (le1_iff hS).mp ⟨p, h1, hle⟩ with h | h
      · exact Or.inl h
      · exact Or.inr (Or.inl h)
    · obtain ⟨a, a1, a2, a3⟩ := nh_pos (show nh l r s S p ≠ 0 by omega)
      have da := nh_drop (l := l) (r := r) (s := s) (p := p) (i := a) (by omega) (k := S) (by omega)
      rw [decide_eq_true a1, a2, a3] at da
      simp only [Bool.and_true, if_true] at da
      obtain ⟨b, b1, b2, b3⟩ := nh_pos (l := l) (r := r) (s := withoutI s (nI a)) (p := p) (k := S) (by omega)
      have b2' := b2
      rw [bit_without (by omega) (by omega), Bool.and_eq_true] at b2'
      have hab : b ≠ a := fun e => by rw [e, decide_eq_true rfl] at b2'; exact absurd b2'.2 (by decide)
      have db := nh_drop (l := l) (r := r) (s := withoutI s (nI a)) (p := p) (i := b) (by omega) (k := S) (by omega)
      rw [decide_eq_true b1, b2, b3] at db
      simp only [Bool.and_true, if_true] at db
      rcases Nat.lt_or_ge b a with q | q
      · exact Or.inr (Or.inr ⟨a, Nat.zero_le _, a1, a2, b, q, b2, p, h1, by omega⟩)
      · have eb := nh_drop (l := l) (r := r) (s := s) (p := p) (i := b) (by omega) (k := S) (by omega)
        rw [decide_eq_true b1, b2'.1, b3] at eb
        simp only [Bool.and_true, if_true] at eb
        have c2 : bit (withoutI s (nI b)) a = true := by rw [bit_without (by omega) (by omega), a2, decide_eq_false (fun e => hab e.symm)]; rfl
        have ea := nh_drop (l := l) (r := r) (s := withoutI s (nI b)) (p := p) (i := a) (by omega) (k := S) (by omega)
        rw [decide_eq_true a1, c2, a3] at ea
        simp only [Bool.and_true, if_true] at ea
        exact Or.inr (Or.inr ⟨b, Nat.zero_le _, b1, b2'.1, a, by omega, c2, p, h1, by omega⟩)
  · rcases h with h | h | ⟨a, -, a1, a2, b, b1, b2, p, h1, h2⟩
    · obtain ⟨p, p1, p2⟩ := (le1_iff hS).mpr (Or.inl h); exact ⟨p, p1, by omega⟩
    · obtain ⟨p, p1, p2⟩ := (le1_iff hS).mpr (Or.inr h); exact ⟨p, p1, by omega⟩
    · have d1 := nh_drop (l := l) (r := r) (s := s) (p := p) (i := a) (by omega) (k := S) (by omega)
      have d2 := nh_drop (l := l) (r := r) (s := withoutI s (nI a)) (p := p) (i := b) (by omega) (k := S) (by omega)
      refine ⟨p, h1, ?_⟩
      rw [d1, d2, h2]
      split <;> split <;> omega
theorem few68 {z : XS} {F S : Nat} {l r : Nat → Nat} {s : Int32} (hB : BkZ z F S l r) (k22 : Int32 → Int32 → XS → Option (Int32 × XS)) {i : Nat} (hi : i < 20) : ∀ (n j : Nat), i - j < n → j ≤ i →
    f_X10_fewestToBreak_L68 k22 n 1 (nI i) s (nI j) z = k22 1 (nI (i + 1)) z ∧
    (((∃ b, j ≤ b ∧ b < i ∧ bit s b = true ∧ Any l r F S (withoutI s (nI b))) ∧ f_X10_fewestToBreak_L68 k22 n 0 (nI i) s (nI j) z = k22 1 (nI (i + 1)) z) ∨
     ((¬ ∃ b, j ≤ b ∧ b < i ∧ bit s b = true ∧ Any l r F S (withoutI s (nI b))) ∧ f_X10_fewestToBreak_L68 k22 n 0 (nI i) s (nI j) z = k22 0 (nI (i + 1)) z))
  | 0, _, h, _ => absurd h (Nat.not_lt_zero _)
  | n + 1, j, hn, hj => by
    have hS : (z.1 11 1).toNatClampNeg ≤ 20 := by rw [hB.2.2.2.1, nI_clamp (by have := hB.2.1; omega)]; exact hB.2.1
    rw [f_X10_fewestToBreak_L68, f_X10_fewestToBreak_L68, show nI i + 1 = nI (i + 1) from nI_addN i 1]
    by_cases hd : i ≤ j
    · rw [if_pos ((nI_leq (by omega) (by omega)).mpr hd), if_pos ((nI_leq (by omega) (by omega)).mpr hd)]
      exact ⟨rfl, Or.inr ⟨fun ⟨b, b1, b2, _⟩ => by omega, rfl⟩⟩
    · rw [if_neg (fun h => hd ((nI_leq (by omega) (by omega)).mp h)), if_neg (fun h => hd ((nI_leq (by omega) (by omega)).mp h)), if_neg (show ¬ (1 : Int32) = 0 by decide), if_pos (show (0 : Int32) = 0 from rfl)]
      refine ⟨rfl, ?_⟩
      rw [show nI j + 1 = nI (j + 1) from nI_addN j 1, cdec_t hS, og_true, mhasB_bit (show j < 32 by omega)]
      obtain ⟨i1, i2⟩ := few68 (s := s) hB k22 hi n (j + 1) (by omega) (by omega)
      cases hb : bit s j with
      | false =>
        rw [if_pos (show b2i false = 0 from rfl)]
        refine i2.imp (fun ⟨⟨b, b1, b2⟩, e⟩ => ⟨⟨b, by omega, b2⟩, e⟩) (fun ⟨h, e⟩ => ⟨fun ⟨b, b1, b2, b3, b4⟩ => ?_, e⟩)
        by_cases q : b = j
        · rw [q, hb] at b3; cases b3
        · exact h ⟨b, by omega, b2, b3, b4⟩
      | true =>
        rw [if_neg (show ¬ b2i true = 0 by decide)]
        cases ha : anyF z (withoutI s (nI j)) with
        | true =>
          rw [show anyF z (s &&& (((1 : Int32) <<< (nI j &&& 31)) ^^^ (-1))) = true from ha, if_neg (show ¬ b2i true = 0 by decide)]
          exact Or.inl ⟨⟨j, Nat.le_refl j, by omega, hb, (any_iff hB).mp ha⟩, i1⟩
        | false =>
          rw [show anyF z (s &&& (((1 : Int32) <<< (nI j &&& 31)) ^^^ (-1))) = false from ha, if_pos (show b2i false = 0 from rfl)]
          refine i2.imp (fun ⟨⟨b, b1, b2⟩, e⟩ => ⟨⟨b, by omega, b2⟩, e⟩) (fun ⟨h, e⟩ => ⟨fun ⟨b, b1, b2, b3, b4⟩ => ?_, e⟩)
          by_cases q : b = j
          · rw [q] at b4
            rw [(any_iff hB).mpr b4] at ha; cases ha
          · exact h ⟨b, by omega, b2, b3, b4⟩
theorem without_same {s : Int32} {i : Nat} (hi : i < 32) : withoutI s (nI i) = s ↔ bit s i = false := by
  refine ⟨fun h => ?_, fun h => bit_ext (fun j hj => ?_)⟩
  · have := bit_without (v := s) hi hi
    rw [h, decide_eq_true rfl, Bool.not_true, Bool.and_false] at this
    exact this
  · rw [bit_without hi hj]
    by_cases e : j = i
    · rw [e, h]; rfl
    · rw [decide_eq_false e]; simp
theorem few22 {z : XS} {F S : Nat} {l r : Nat → Nat} {s : Int32} (hB : BkZ z F S l r) (h15 : z.1 0 15 = s) : ∀ (n i : Nat) (l1 : Int32), S - i < n → i ≤ S → l1 = 0 ∨ l1 = 1 →
    (One l r F S s i ∧ f_X10_fewestToBreak_L22 n l1 (nI i) z = some (1, z)) ∨ (¬ One l r F S s i ∧ (l1 = 1 ∨ Two l r F S s i) ∧ f_X10_fewestToBreak_L22 n l1 (nI i) z = some (2, z)) ∨ (¬ One l r F S s i ∧ ¬ (l1 = 1 ∨ Two l r F S s i) ∧ f_X10_fewestToBreak_L22 n l1 (nI i) z = some (-1, z))
  | 0, _, _, h, _, _ => absurd h (Nat.not_lt_zero _)
  | n + 1, i, l1, hn, hi, hl => by
    have hS20 := hB.2.1
    have hS : (z.1 11 1).toNatClampNeg ≤ 20 := by rw [hB.2.2.2.1, nI_clamp (by omega)]; exact hB.2.1
    rw [f_X10_fewestToBreak_L22, hB.2.2.2.1, h15]
    by_cases hd : S ≤ i
    · rw [if_pos ((nI_leq (by omega) (by omega)).mpr hd)]
      have n1 : ¬ One l r F S s i := fun ⟨a, a1, a2, _⟩ => by omega
      have n2 : ¬ Two l r F S s i := fun ⟨a, a1, a2, _⟩ => by omega
      rcases hl with hl | hl
      · rw [if_pos hl]
        exact Or.inr (Or.inr ⟨n1, fun h => h.elim (fun e => by rw [hl] at e; exact absurd e (by decide)) n2, rfl⟩)
      · rw [if_neg (by rw [hl]; decide)]
        exact Or.inr (Or.inl ⟨n1, Or.inl hl, rfl⟩)
    · rw [if_neg (fun h => hd ((nI_leq (by omega) (by omega)).mp h)), show nI i + 1 = nI (i + 1) from nI_addN i 1, show (s &&& (((1 : Int32) <<< (nI i &&& 31)) ^^^ (-1))) = withoutI s (nI i) from rfl, nI_clamp (by omega), cdec_t hB.2.1, og_true]
      have ih := fun l1 h => few22 hB h15 n (i + 1) l1 (by omega) (by omega) h
      have one_s : One l r F S s i ↔ (bit s i = true ∧ Any l r F S (withoutI s (nI i))) ∨ One l r F S s (i + 1) := by
        refine ⟨fun ⟨a, a1, a2, a3, a4⟩ => ?_, fun h => ?_⟩
        · by_cases e : a = i
          · rw [e] at a3 a4; exact Or.inl ⟨a3, a4⟩
          · exact Or.inr ⟨a, by omega, a2, a3, a4⟩
        · rcases h with ⟨h1, h2⟩ | ⟨a, a1, a2⟩
          · exact ⟨i, Nat.le_refl i, by omega, h1, h2⟩
          · exact ⟨a, by omega, a2⟩
      have two_s : Two l r F S s i ↔ (bit s i = true ∧ ∃ b, 0 ≤ b ∧ b < i ∧ bit (withoutI s (nI i)) b = true ∧ Any l r F S (withoutI (withoutI s (nI i)) (nI b))) ∨ Two l r F S s (i + 1) := by
        refine ⟨fun ⟨a, a1, a2, a3, b, b1, b2, b3⟩ => ?_, fun h => ?_⟩
        · by_cases e : a = i
          · rw [e] at a3 b1 b2 b3; exact Or.inl ⟨a3, b, Nat.zero_le b, b1, b2, b3⟩
          · exact Or.inr ⟨a, by omega, a2, a3, b, b1, b2, b3⟩
        · rcases h with ⟨h1, b, -, b1, b2, b3⟩ | ⟨a, a1, a2⟩
          · exact ⟨i, Nat.le_refl i, by omega, h1, b, b1, b2, b3⟩
          · exact ⟨a, by omega, a2⟩
      rw [one_s, two_s]
      cases hb : bit s i with
      | false =>
        rw [if_pos ((without_same (by omega)).mpr hb)]
        simp only [Bool.false_eq_true, false_and, false_or]
        exact ih l1 hl
      | true =>
        rw [if_neg (fun h => by rw [(without_same (by omega)).mp h] at hb; cases hb)]
        cases ha : anyF z (withoutI s (nI i)) with
        | true =>
          rw [if_neg (show ¬ b2i true = 0 by decide)]
          exact Or.inl ⟨Or.inl ⟨rfl, (any_iff hB).mp ha⟩, rfl⟩
        | false =>
          rw [if_pos (show b2i false = 0 from rfl)]
          have hna : ¬ Any l r F S (withoutI s (nI i)) := fun h => by rw [(any_iff hB).mpr h] at ha; cases ha
          obtain ⟨k1, k2⟩ := few68 (s := withoutI s (nI i)) hB (f_X10_fewestToBreak_L22 n) (show i < 20 by omega) 30 0 (by omega) (Nat.zero_le _)
          rw [show (0 : Int32) = nI 0 from rfl] at *
          simp only [hna, and_false, false_or, true_and]
          rcases hl with hl | hl
          · rw [hl]
            rcases k2 with ⟨e1, e2⟩ | ⟨e1, e2⟩
            · rw [e2]
              have := ih 1 (Or.inr rfl)
              simp only [e1, true_or, or_true, true_and, not_true, false_and, or_false] at this ⊢
              exact this
            · rw [e2]
              have := ih (nI 0) (Or.inl rfl)
              simp only [e1, false_or] at this ⊢
              exact this
          · rw [hl, k1]
            have := ih 1 (Or.inr rfl)
            simp only [true_or] at this ⊢
            exact this
theorem ag_fewest {R : XS → XS → Prop} (hR : Stab R) : AgN (IV R) f_X8_fewestToBreak f_X10_fewestToBreak := by
  rintro x z ⟨F, S, l, r, m, h⟩
  have h0 := h.r0 hR
  have hS := h.bx.2.1
  unfold f_X8_fewestToBreak f_X10_fewestToBreak
  rw [show setI z 0 0 0 = r0 z from rfl, h0.bz.2.2.2.1, nI_clamp (by omega), cdec_t hS, og_true, h.xs, few_ok h.bx h.pea, h0.zs]
  have m0 := mn_le (f := nh l r (nI m) S) (v := 0) (by decide) (n := 2 ^ F)
  have m1 := mn_le (f := nh l r (nI m) S) (v := 1) (by decide) (n := 2 ^ F)
  have m2 := mn_le (f := nh l r (nI m) S) (v := 2) (by decide) (n := 2 ^ F)
  have mt := mn_top (nh l r (nI m) S) (2 ^ F)
  rw [le1_iff hS] at m1
  rw [le2_iff hS] at m2
  generalize mn (nh l r (nI m) S) (2 ^ F) = v at m0 m1 m2 mt
  have m0' : v ≤ 0 ↔ Any l r F S (nI m) := by rw [m0]; exact ⟨fun ⟨p, h1, h2⟩ => ⟨p, h1, by omega⟩, fun ⟨p, h1, h2⟩ => ⟨p, h1, by omega⟩⟩
  cases ha : anyF (r0 z) (nI m) with
  | true =>
    have hv := m0'.mpr ((any_iff h0.bz).mp ha)
    have : v = 0 := by omega
    rw [if_neg (show ¬ b2i true = 0 by decide), this, if_pos (by decide)]
    exact ⟨_, _, _, rfl, rfl, IVi h0⟩
  | false =>
    have hna : ¬ Any l r F S (nI m) := fun h => by rw [(any_iff h0.bz).mpr h] at ha; cases ha
    have hv : ¬ v ≤ 0 := fun h => hna (m0'.mp h)
    rw [if_pos (show b2i false = 0 from rfl)]
    rcases few22 h0.bz h0.zs 30 0 0 (by omega) (Nat.zero_le _) (Or.inl rfl) with ⟨e1, e2⟩ | ⟨e1, e2, e3⟩ | ⟨e1, e2, e3⟩
    · have : v ≤ 1 := m1.mpr (Or.inr e1)
      have : v = 1 := by omega
      rw [this, if_pos (by decide)]
      exact ⟨_, _, _, rfl, e2, IVi h0⟩
    · have e4 : Two l r F S (nI m) 0 := e2.resolve_left (by decide)
      have q2 : v ≤ 2 := m2.mpr (Or.inr (Or.inr e4))
      have q1 : ¬ v ≤ 1 := fun h => (m1.mp h).elim hna e1
      have : v = 2 := by omega
      rw [this, if_pos (by decide)]
      exact ⟨_, _, _, rfl, e3, IVi h0⟩
    · have q2 : ¬ v ≤ 2 := fun h => by
        rcases m2.mp h with q | q | q
        · exact hna q
        · exact e1 q
        · exact e2 (Or.inr q)
      rw [if_neg q2]
      exact ⟨_, _, _, rfl, e3, IVi h0⟩
