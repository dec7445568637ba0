/-! How far: the class's steps and the reference's -/
def lv (E : Mat) (d : Nat) : Nat → Nat → Bool
  | 0, c => decide (c = d)
  | j + 1, c => lv E d j c || decide (0 < fb_ct (fun a => lv E d j a && E a c) 20)
theorem lv_succ {E : Mat} {d j c : Nat} : lv E d (j + 1) c = true ↔ lv E d j c = true ∨ ∃ a, a < 20 ∧ lv E d j a = true ∧ E a c = true := by
  show (lv E d j c || decide (0 < fb_ct (fun a => lv E d j a && E a c) 20)) = true ↔ _
  rw [Bool.or_eq_true, decide_eq_true_iff, fb_ct_pos]
  exact or_congr Iff.rfl ⟨fun ⟨a, h1, h2⟩ => ⟨a, h1, by rw [Bool.and_eq_true] at h2; exact h2⟩, fun ⟨a, h1, h2⟩ => ⟨a, h1, by rw [Bool.and_eq_true]; exact h2⟩⟩
theorem lv_mono {E : Mat} {d c : Nat} {i : Nat} (h : lv E d i c = true) : ∀ j, lv E d (i + j) c = true
  | 0 => h
  | j + 1 => lv_succ.mpr (Or.inl (lv_mono h j))
theorem lv_le {E : Mat} {d c i j : Nat} (hij : i ≤ j) (h : lv E d i c = true) : lv E d j c = true := by
  have := lv_mono h (j - i)
  rw [show i + (j - i) = j by omega] at this; exact this
theorem lv_stable {E : Mat} {d i : Nat} (h : ∀ c, c < 20 → lv E d (i + 1) c = lv E d i c) : ∀ j c, c < 20 → lv E d (i + j) c = lv E d i c
  | 0, _, _ => rfl
  | j + 1, c, hc => by
    rw [Bool.eq_iff_iff]
    refine ⟨fun e => ?_, fun e => lv_le (by omega) e⟩
    rcases lv_succ.mp (show lv E d (i + j + 1) c = true from e) with e | ⟨a, a1, a2, a3⟩
    · rw [← lv_stable h j c hc]; exact e
    · rw [← h c hc]
      exact lv_succ.mpr (Or.inr ⟨a, a1, by rw [← lv_stable h j a a1]; exact a2, a3⟩)
theorem lv_grow {E : Mat} {d : Nat} (hd : d < 20) : ∀ j, (∃ i, i ≤ j ∧ ∀ c, c < 20 → lv E d (i + 1) c = lv E d i c) ∨ j + 2 ≤ fb_ct (lv E d (j + 1)) 20
  | 0 => by
    by_cases h : ∀ c, c < 20 → lv E d (0 + 1) c = lv E d 0 c
    · exact Or.inl ⟨0, Nat.le_refl 0, h⟩
    · refine Or.inr ?_
      have h1 : fb_ct (lv E d 0) 20 < fb_ct (lv E d (0 + 1)) 20 := by
        apply Classical.byContradiction
        intro hn
        apply h
        intro c hc
        have hz : fb_ct (fun c => lv E d (0 + 1) c && !lv E d 0 c) 20 = 0 := by
          have e := fb_ct_or (p := lv E d 0) (q := fun c => lv E d (0 + 1) c && !lv E d 0 c) (n := 20) (fun k _ ⟨q1, q2⟩ => by rw [q1] at q2; simp at q2)
          have e2 : fb_ct (fun k => lv E d 0 k || (lv E d (0 + 1) k && !lv E d 0 k)) 20 = fb_ct (lv E d (0 + 1)) 20 := fb_ct_cong (fun k _ => by
            cases q : lv E d 0 k with
            | true => rw [lv_le (Nat.zero_le _) q]; rfl
            | false => simp)
          omega
        have := fb_ct_zero.mp hz c hc
        cases q : lv E d 0 c with
        | true => exact lv_le (Nat.zero_le _) q
        | false => simpa [q] using this
      have h0 : 0 < fb_ct (lv E d 0) 20 := fb_ct_pos.mpr ⟨d, hd, decide_eq_true rfl⟩
      omega
  | j + 1 => by
    rcases lv_grow hd j with ⟨i, i1, i2⟩ | ih
    · exact Or.inl ⟨i, by omega, i2⟩
    · by_cases h : ∀ c, c < 20 → lv E d (j + 1 + 1) c = lv E d (j + 1) c
      · exact Or.inl ⟨j + 1, Nat.le_refl _, h⟩
      · refine Or.inr ?_
        have h1 : fb_ct (lv E d (j + 1)) 20 < fb_ct (lv E d (j + 1 + 1)) 20 := by
          apply Classical.byContradiction
          intro hn
          apply h
          intro c hc
          have hz : fb_ct (fun c => lv E d (j + 1 + 1) c && !lv E d (j + 1) c) 20 = 0 := by
            have e := fb_ct_or (p := lv E d (j + 1)) (q := fun c => lv E d (j + 1 + 1) c && !lv E d (j + 1) c) (n := 20) (fun k _ ⟨q1, q2⟩ => by rw [q1] at q2; simp at q2)
            have e2 : fb_ct (fun k => lv E d (j + 1) k || (lv E d (j + 1 + 1) k && !lv E d (j + 1) k)) 20 = fb_ct (lv E d (j + 1 + 1)) 20 := fb_ct_cong (fun k _ => by
              cases q : lv E d (j + 1) k with
              | true => rw [lv_le (Nat.le_succ _) q]; rfl
              | false => simp)
            omega
          have := fb_ct_zero.mp hz c hc
          cases q : lv E d (j + 1) c with
          | true => exact lv_le (Nat.le_succ _) q
          | false => simpa [q] using this
        omega
theorem lv_20 {E : Mat} {d c : Nat} (hd : d < 20) (hc : c < 20) {j : Nat} (h : lv E d j c = true) : lv E d 20 c = true := by
  rcases lv_grow (E := E) hd 19 with ⟨i, i1, i2⟩ | h1
  · by_cases q : j ≤ i
    · exact lv_le (by omega) (lv_le q h)
    · have := lv_stable i2 (j - i) c hc
      rw [show i + (j - i) = j by omega, h] at this
      exact lv_le (by omega) this.symm
  · have := fb_ct_le (lv E d (19 + 1)) 20
    omega
theorem lv_RR {F S : Nat} {l r : Nat → Nat} {s : Int32} (hF : F ≤ 10) (h : ∀ k, k < S → l k < 2 * F ∧ r k < 2 * F) {d : Nat} : ∀ {j c : Nat}, lv (stA l r s S) d j c = true → RR F S l r s d c = true
  | 0, c, e => by
    have : c = d := of_decide_eq_true e
    rw [this]; exact RR_refl d
  | j + 1, c, e => by
    rcases lv_succ.mp e with e | ⟨a, a1, a2, a3⟩
    · exact lv_RR hF h e
    · exact RR_trans hF h (lv_RR hF h a2) (RR_step a3)
theorem lv_trans {E : Mat} {a b : Nat} {i : Nat} (h1 : lv E a i b = true) : ∀ {j c : Nat}, lv E b j c = true → lv E a (i + j) c = true
  | 0, c, e => by
    have : c = b := of_decide_eq_true e
    rw [this]; exact h1
  | j + 1, c, e => by
    rcases lv_succ.mp e with e | ⟨k, k1, k2, k3⟩
    · exact lv_succ.mpr (Or.inl (lv_trans h1 e))
    · exact lv_succ.mpr (Or.inr ⟨k, k1, lv_trans h1 k2, k3⟩)
theorem clo_lv {F S : Nat} {l r : Nat → Nat} {s : Int32} (hF : F ≤ 10) (h : ∀ k, k < S → l k < 2 * F ∧ r k < 2 * F) : ∀ (m c d : Nat), clo (A0 l r s S) m c d = true → ∃ j, lv (stA l r s S) c j d = true
  | 0, c, d, e => by
    have e' : (decide (c = d) || stA l r s S c d) = true := e
    rw [Bool.or_eq_true] at e'
    rcases e' with e' | e'
    · exact ⟨0, decide_eq_true (of_decide_eq_true e').symm⟩
    · have := st_lt hF h S (Nat.le_refl S) e'
      exact ⟨1, lv_succ.mpr (Or.inr ⟨c, by omega, decide_eq_true rfl, e'⟩)⟩
  | m + 1, c, d, e => by
    have e' : (clo (A0 l r s S) m c d || (clo (A0 l r s S) m c m && clo (A0 l r s S) m m d)) = true := e
    rw [Bool.or_eq_true, Bool.and_eq_true] at e'
    rcases e' with e' | ⟨e1, e2⟩
    · exact clo_lv hF h m c d e'
    · obtain ⟨i, i1⟩ := clo_lv hF h m c m e1
      obtain ⟨j, j1⟩ := clo_lv hF h m m d e2
      exact ⟨i + j, lv_trans i1 j1⟩
theorem RR_lv {F S : Nat} {l r : Nat → Nat} {s : Int32} (hF : F ≤ 10) (h : ∀ k, k < S → l k < 2 * F ∧ r k < 2 * F) {c d : Nat} (hc : c < 20) (hd : d < 20) : RR F S l r s d c = true ↔ lv (stA l r s S) d 20 c = true :=
  ⟨fun e => by obtain ⟨j, hj⟩ := clo_lv hF h _ d c e; exact lv_20 hd hc hj, fun e => lv_RR hF h e⟩
theorem after_bit {y : XS} {n : Nat} {E : Mat} (hn : n ≤ 20) (h3 : y.1 37 3 = nI n) (hR : Rows 38 n y E) (hE : ∀ a c, E a c = true → a < n ∧ c < n) (rd : Int32) {c : Nat} (hc : c < 32) : bit (after1 y rd) c = true ↔ ∃ a, a < 20 ∧ bit rd a = true ∧ E a c = true := by
  have hm : min (y.1 37 3).toNatClampNeg 20 = n := by rw [h3, nI_clamp (by omega)]; omega
  unfold after1
  rw [hm]
  have h7 := itP_rel (f := afterF y rd) (n := n) (y := (0 : Int32)) (P := fun j v => bit v c = true ↔ ∃ a, a < j ∧ bit rd a = true ∧ E a c = true)
    ⟨fun h => (by rw [bit_zero] at h; cases h), fun ⟨a, h, _⟩ => absurd h (Nat.not_lt_zero a)⟩
    (fun j hj v hv => by
      unfold afterF
      rw [hasB_bit (show j < 32 by omega)]
      cases hb : bit rd j with
      | false =>
        rw [if_neg (by decide), hv]
        refine ⟨fun ⟨a, a1, a2⟩ => ⟨a, by omega, a2⟩, fun ⟨a, a1, a2, a3⟩ => ⟨a, ?_, a2, a3⟩⟩
        rcases Nat.lt_or_ge a j with q | q
        · exact q
        · have : a = j := by omega
          rw [this, hb] at a2; cases a2
      | true =>
        rw [if_pos rfl, bit_or, Bool.or_eq_true, hv, hR j hj c hc]
        refine ⟨fun h => ?_, fun ⟨a, a1, a2, a3⟩ => ?_⟩
        · rcases h with ⟨a, a1, a2⟩ | h
          · exact ⟨a, by omega, a2⟩
          · exact ⟨j, by omega, hb, h⟩
        · by_cases e : a = j
          · rw [e] at a3; exact Or.inr a3
          · exact Or.inl ⟨a, by omega, a2, a3⟩)
  rw [h7]
  exact ⟨fun ⟨a, a1, a2, a3⟩ => ⟨a, by omega, a2, a3⟩, fun ⟨a, a1, a2, a3⟩ => ⟨a, (hE a c a3).1, a2, a3⟩⟩
theorem dist_eq {y : XS} {n : Nat} {E : Mat} (hn : n ≤ 20) (h3 : y.1 37 3 = nI n) (hR : Rows 38 n y E) (hE : ∀ a c, E a c = true → a < n ∧ c < n) {d c : Nat} (hc : c < 20) : ∀ (k j : Nat) (rd : Int32), (∀ a, a < 32 → bit rd a = lv E d j a) →
    (∃ i, j ≤ i ∧ i < j + k ∧ lv E d i c = true ∧ (∀ e, j ≤ e → e < i → lv E d e c = false) ∧ distL y (nI c) k j rd = nI i) ∨ ((∀ i, j ≤ i → i < j + k → lv E d i c = false) ∧ distL y (nI c) k j rd = -1)
  | 0, j, rd, _ => Or.inr ⟨fun i h1 h2 => by omega, rfl⟩
  | k + 1, j, rd, h => by
    rw [distL, hasB_bit (show c < 32 by omega), h c (by omega)]
    cases hb : lv E d j c with
    | true => rw [if_pos rfl]; exact Or.inl ⟨j, Nat.le_refl j, by omega, hb, fun e h1 h2 => by omega, rfl⟩
    | false =>
      rw [if_neg (by decide)]
      have ih := dist_eq hn h3 hR hE (d := d) hc k (j + 1) (rd ||| after1 y rd) (fun a ha => by
        rw [Bool.eq_iff_iff, bit_or, Bool.or_eq_true, after_bit hn h3 hR hE rd ha, lv_succ, h a ha]
        exact or_congr Iff.rfl ⟨fun ⟨b, b1, b2, b3⟩ => ⟨b, b1, by rw [← h b (by omega)]; exact b2, b3⟩, fun ⟨b, b1, b2, b3⟩ => ⟨b, b1, by rw [h b (by omega)]; exact b2, b3⟩⟩)
      rcases ih with ⟨i, i1, i2, i3, i4, i5⟩ | ⟨i1, i2⟩
      · refine Or.inl ⟨i, by omega, by omega, i3, fun e h1 h2 => ?_, i5⟩
        by_cases q : e = j
        · rw [q]; exact hb
        · exact i4 e (by omega) h2
      · refine Or.inr ⟨fun i h1 h2 => ?_, i2⟩
        by_cases q : i = j
        · rw [q]; exact hb
        · exact i1 i (by omega) (by omega)
