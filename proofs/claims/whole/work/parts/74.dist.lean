/-! How far: the class's steps and the reference's -/
def lv (E : Mat) (d : Nat) : Nat → Nat → Bool
  | 0, c => decide (c = d)
  | j + 1, c => lv E d j c || decide (0 < fb_ct (fun a => lv E d j a && E a c) 20)
theorem lv_succ {E : Mat} {d j c : Nat} : lv E d (j + 1) c = true ↔ lv E d j c = true ∨ ∃ a, a < 20 ∧ lv E d j a = true ∧ E a c = true := by
  show (lv E d j c || decide (0 < fb_ct (fun a => lv E d j a && E a c) 20)) = true ↔ _
  rw [Bool.or_eq_true, decide_eq_true_iff, fb_ct_pos]
  exact or_congr Iff.rfl ⟨fun ⟨a, h1, h2⟩ => ⟨a, h1, by rw [Bool.and_eq_true] at h2; exact h2⟩, fun ⟨a, h1, h2⟩ => ⟨a, h1, by rw [Bool.and_eq_true]; exact h2⟩⟩
theorem lv_mono {E : Mat} {d c : Nat} {i : Nat} (h : lv E d i c = true) : ∀ j, lv E d (i + j) c = true
  | 0 => h
  | j + 1 => lv_succ.mpr (Or.inl (lv_mono h j))
theorem lv_le {E : Mat} {d c i j : Nat} (hij : i ≤ j) (h : lv E d i c = true) : lv E d j c = true := by
  have := lv_mono h (j - i)
  rw [show i + (j - i) = j by omega] at this; exact this
theorem lv_stable {E : Mat} {d i : Nat} (h : ∀ c, c < 20 → lv E d (i + 1) c = lv E d i c) : ∀ j c, c < 20 → lv E d (i + j) c = lv E d i c
  | 0, _, _ => rfl
  | j + 1, c, hc => by
    rw [Bool.eq_iff_iff]
    refine ⟨fun e => ?_, fun e => lv_le (by omega) e⟩
    rcases lv_succ.mp (show lv E d (i + j + 1) c = true from e) with e | ⟨a, a1, a2, a3⟩
    · rw [← lv_stable h j c hc]; exact e
    · rw [← h c hc]
      exact lv_succ.mpr (Or.inr ⟨a, a1, by rw [← lv_stable h j a a1]; exact a2, a3⟩)
theorem lv_grow {E : Mat} {d : Nat} (hd : d < 20) : ∀ j, (∃ i, i ≤ j ∧ ∀ c, c < 20 → lv E d (i + 1) c = lv E d i c) ∨ j + 2 ≤ fb_ct (lv E d (j + 1)) 20
  | 0 => by
    by_cases h : ∀ c, c < 20 → lv E d (0 + 1) c = lv E d 0 c
    · exact Or.inl ⟨0, Nat.le_refl 0, h⟩
    · refine Or.inr ?_
      have h1 : fb_ct (lv E d 0) 20 < fb_ct (lv E d (0 + 1)) 20 := by
        apply Classical.byContradiction
        intro hn
        apply h
        intro c hc
        have hz : fb_ct (fun c => lv E d (0 + 1) c && !lv E d 0 c) 20 = 0 := by
          have e := fb_ct_or (p := lv E d 0) (q := fun c => lv E d (0 + 1) c && !lv E d 0 c) (n := 20) (fun k _ ⟨q1, q2⟩ => by rw [q1] at q2; simp at q2)
          have e2 : fb_ct (fun k => lv E d 0 k || (lv E d (0 + 1) k && !lv E d 0 k)) 20 = fb_ct (lv E d (0 + 1)) 20 := fb_ct_cong (fun k _ => by
            cases q : lv E d 0 k with
            | true => rw [lv_le (Nat.zero_le _) q]; rfl
            | false => simp)
          omega
        have := fb_ct_zero.mp hz c hc
        cases q : lv E d 0 c with
        | true => exact lv_le (Nat.zero_le _) q
        | false => simpa [q] using this
      have h0 : 0 < fb_ct (lv E d 0) 20 := fb_ct_pos.mpr ⟨d, hd, decide_eq_true rfl⟩
      omega
  | j + 1 => by
    rcases lv_grow hd j with ⟨i, i1, i2⟩ | ih
    · exact Or.inl ⟨i, by omega, i2⟩
    · by_cases h : ∀ c, c < 20 → lv E d (j + 1 + 1) c = lv E d (j + 1) c
      · exact Or.inl ⟨j + 1, Nat.le_refl _, h⟩
      · refine Or.inr ?_
        have h1 : fb_ct (lv E d (j + 1)) 20 < fb_ct (lv E d (j + 1 + 1)) 20 := by
          apply Classical.byContradiction
          intro hn
          apply h
          intro c hc
          have hz : fb_ct (fun c => lv E d (j + 1 + 1) c && !lv E d (j + 1) c) 20 = 0 := by
            have e := fb_ct_or (p := lv E d (j + 1)) (q := fun c => lv E d (j + 1 + 1) c && !lv E d (j + 1) c) (n := 20) (fun k _ ⟨q1, q2⟩ => by rw [q1] at q2; simp at q2)
            have e2 : fb_ct (fun k => lv E d (j + 1) k || (lv E d (j + 1 + 1) k && !lv E d (j + 1) k)) 20 = fb_ct (lv E d (j + 1 + 1)) 20 := fb_ct_cong (fun k _ => by
              cases q : lv E d (j + 1) k with
              | true => rw [lv_le (Nat.le_succ _) q]; rfl
              | false => simp)
            omega
          have := fb_ct_zero.mp hz c hc
          cases q : lv E d (j + 1) c with
          | true => exact lv_le (Nat.le_succ _) q
          | false => simpa [q] using this
        omega
theorem lv_20 {E : Mat} {d c : Nat} (hd : d < 20) (hc : c < 20) {j : Nat} (h : lv E d j c = true) : lv E d 20 c = true := by
  rcases lv_grow (E := E) hd 19 with ⟨i, i1, i2⟩ | h1
  · by_cases q : j ≤ i
    · exact lv_le (by omega) (lv_le q h)
    · have := lv_stable i2 (j - i) c hc
      rw [show i + (j - i) = j by omega, h] at this
      exact lv_le (by omega) this.symm
  · have := fb_ct_le (lv E d (19 + 1)) 20
    omega
theorem lv_RR {F S : Nat} {l r : Nat → Nat} {s : Int32} (hF : F ≤ 10) (h : ∀ k, k < S → l k < 2 * F ∧ r k < 2 * F) {d : Nat} : ∀ {j c : Nat}, lv (stA l r s S) d j c = true → RR F S l r s d c = true
  | 0, c, e => by
    have : c = d := of_decide_eq_true e
    rw [this]; exact RR_refl d
  | j + 1, c, e => by
    rcases lv_succ.mp e with e | ⟨a, a1, a2, a3⟩
    · exact lv_RR hF h e
    · exact RR_trans hF h (lv_RR hF h a2) (RR_step a3)
theorem lv_trans {E : Mat} {a b : Nat} {i : Nat} (h1 : lv E a i b = true) : ∀ {j c : Nat}, lv E b j c = true → lv E a (i + j) c = true
  | 0, c, e => by
    have : c = b := of_decide_eq_true e
    rw [this]; exact h1
  | j + 1, c, e => by
    rcases lv_succ.mp e with e | ⟨k, k1, k2, k3⟩
    · exact lv_succ.mpr (Or.inl (lv_trans h1 e))
    · exact lv_succ.mpr (Or.inr ⟨k, k1, lv_trans h1 k2, k3⟩)
theorem clo_lv {F S : Nat} {l r : Nat → Nat} {s : Int32} (hF : F ≤ 10) (h : ∀ k, k < S → l k < 2 * F ∧ r k < 2 * F) : ∀ (m c d : Nat), clo (A0 l r s S) m c d = true → ∃ j, lv (stA l r s S) c j d = true
  | 0, c, d, e => by
    have e' : (decide (c = d) || stA l r s S c d) = true := e
    rw [Bool.or_eq_true] at e'
    rcases e' with e' | e'
    · exact ⟨0, decide_eq_true (of_decide_eq_true e').symm⟩
    · have := st_lt hF h S (Nat.le_refl S) e'
      exact ⟨1, lv_succ.mpr (Or.inr ⟨c, by omega, decide_eq_true rfl, e'⟩)⟩
  | m + 1, c, d, e => by
    have e' : (clo (A0 l r s S) m c d || (clo (A0 l r s S) m c m && clo (A0 l r s S) m m d)) = true := e
    rw [Bool.or_eq_true, Bool.and_eq_true] at e'
    rcases e' with e' | ⟨e1, e2⟩
    · exact clo_lv hF h m c d e'
    · obtain ⟨i, i1⟩ := clo_lv hF h m c m e1
      obtain ⟨j, j1⟩ := clo_lv hF h m m d e2
      exact ⟨i + j, lv_trans i1 j1⟩
theorem RR_lv {F S : Nat} {l r : Nat → Nat} {s : Int32} (hF : F ≤ 10) (h : ∀ k, k < S → l k < 2 * F ∧ r k < 2 * F) {c d : Nat} (hc : c < 20) (hd : d < 20) : RR F S l r s d c = true ↔ lv (stA l r s S) d 20 c = true :=
  ⟨fun e => by obtain ⟨j, hj⟩ := clo_lv hF h _ d c e; exact lv_20 hd hc hj, fun e => lv_RR hF h e⟩
theorem after_bit {y : XS} {n : Nat} {E : Mat} (hn : n ≤ 20) (h3 : y.1 37 3 = nI n) (hR : Rows 38 n y E) (hE : ∀ a c, E a c = true → a < n ∧ c < n) (rd : Int32) {c : Nat} (hc : c < 32) : bit (after1 y rd) c = true ↔ ∃ a, a < 20 ∧ bit rd a = true ∧ E a c = true := by
  have hm : min (y.1 37 3).toNatClampNeg 20 = n := by rw [h3, nI_clamp (by omega)]; omega
  unfold after1
  rw [hm]
  have h7 := itP_rel (f := afterF y rd) (n := n) (y := (0 : Int32)) (P := fun j v => bit v c = true ↔ ∃ a, a < j ∧ bit rd a = true ∧ E a c = true)
    ⟨fun h => (by rw [bit_zero] at h; cases h), fun ⟨a, h, _⟩ => absurd h (Nat.not_lt_zero a)⟩
    (fun j hj v hv => by
      unfold afterF
      rw [hasB_bit (show j < 32 by omega)]
      cases hb : bit rd j with
      | false =>
        rw [if_neg (by decide), hv]
        refine ⟨fun ⟨a, a1, a2⟩ => ⟨a, by omega, a2⟩, fun ⟨a, a1, a2, a3⟩ => ⟨a, ?_, a2, a3⟩⟩
        rcases Nat.lt_or_ge a j with q | q
        · exact q
        · have : a = j := by omega
          rw [this, hb] at a2; cases a2
      | true =>
        rw [if_pos rfl, bit_or, Bool.or_eq_true, hv, hR j hj c hc]
        refine ⟨fun h => ?_, fun ⟨a, a1, a2, a3⟩ => ?_⟩
        · rcases h with ⟨a, a1, a2⟩ | h
          · exact ⟨a, by omega, a2⟩
          · exact ⟨j, by omega, hb, h⟩
        · by_cases e : a = j
          · rw [e] at a3; exact Or.inr a3
          · exact Or.inl ⟨a, by omega, a2, a3⟩)
  rw [h7]
  exact ⟨fun ⟨a, a1, a2, a3⟩ => ⟨a, by omega, a2, a3⟩, fun ⟨a, a1, a2, a3⟩ => ⟨a, (hE a c a3).1, a2, a3⟩⟩
theorem dist_eq {y : XS} {n : Nat} {E : Mat} (hn : n ≤ 20) (h3 : y.1 37 3 = nI n) (hR : Rows 38 n y E) (hE : ∀ a c, E a c = true → a < n ∧ c < n) {d c : Nat} (hc : c < 20) : ∀ (k j : Nat) (rd : Int32), (∀ a, a < 32 → bit rd a = lv E d j a) →
    (∃ i, j ≤ i ∧ i < j + k ∧ lv E d i c = true ∧ (∀ e, j ≤ e → e < i → lv E d e c = false) ∧ distL y (nI c) k j rd = nI i) ∨ ((∀ i, j ≤ i → i < j + k → lv E d i c = false) ∧ distL y (nI c) k j rd = -1)
  | 0, j, rd, _ => Or.inr ⟨fun i h1 h2 => by omega, rfl⟩
  | k + 1, j, rd, h => by
    rw [distL, hasB_bit (show c < 32 by omega), h c (by omega)]
    cases hb : lv E d j c with
    | true => rw [if_pos rfl]; exact Or.inl ⟨j, Nat.le_refl j, by omega, hb, fun e h1 h2 => by omega, rfl⟩
    | false =>
      rw [if_neg (by decide)]
      have ih := dist_eq hn h3 hR hE (d := d) hc k (j + 1) (rd ||| after1 y rd) (fun a ha => by
        rw [Bool.eq_iff_iff, bit_or, Bool.or_eq_true, after_bit hn h3 hR hE rd ha, lv_succ, h a ha]
        exact or_congr Iff.rfl ⟨fun ⟨b, b1, b2, b3⟩ => ⟨b, b1, by rw [← h b (by omega)]; exact b2, b3⟩, fun ⟨b, b1, b2, b3⟩ => ⟨b, b1, by rw [h b (by omega)]; exact b2, b3⟩⟩)
      rcases ih with ⟨i, i1, i2, i3, i4, i5⟩ | ⟨i1, i2⟩
      · refine Or.inl ⟨i, by omega, by omega, i3, fun e h1 h2 => ?_, i5⟩
        by_cases q : e = j
        · rw [q]; exact hb
        · exact i4 e (by omega) h2
      · refine Or.inr ⟨fun i h1 h2 => ?_, i2⟩
        by_cases q : i = j
        · rw [q]; exact hb
        · exact i1 i (by omega) (by omega)
/-! the reference's -/
def hsF (u v : Nat) (f : Int32) (y : XS) : XS := if y.1 10 u = f then (if y.1 10 v = -1 then setI y 10 v (f + 1) else y) else y
def PE (y0 : XS) (f : Nat) (E : Nat → Nat → Prop) (y : XS) : Prop := (∀ a, a < 20 → ((y0.1 10 a = -1 ∧ ∃ b, b < 20 ∧ y0.1 10 b = nI f ∧ E b a) ∧ y.1 10 a = nI (f + 1)) ∨ (¬ (y0.1 10 a = -1 ∧ ∃ b, b < 20 ∧ y0.1 10 b = nI f ∧ E b a) ∧ y.1 10 a = y0.1 10 a)) ∧ (∀ q k, q ≠ 10 → y.1 q k = y0.1 q k) ∧ y.2 = y0.2
theorem hs_PE {y0 y : XS} {f : Nat} (hf : f < 100) {E : Nat → Nat → Prop} {u v : Nat} (hu : u < 20) (hv : v < 20) (hP : PE y0 f E y) : PE y0 f (fun a b => E a b ∨ (a = u ∧ b = v)) (hsF u v (nI f) y) := by
  obtain ⟨h1, h2, h3⟩ := hP
  have n1 : nI (f + 1) ≠ -1 := nI_ne1 (by omega)
  have n2 : nI f ≠ -1 := nI_ne1 (by omega)
  have n3 : nI (f + 1) ≠ nI f := fun e => by have := (nI_inj (by omega) (by omega)).mp e; omega
  have hu1 : y.1 10 u = nI f ↔ y0.1 10 u = nI f := by
    rcases h1 u hu with ⟨⟨q1, -⟩, q2⟩ | ⟨-, q2⟩
    · rw [q1, q2]; exact ⟨fun e => absurd e n3, fun e => absurd e.symm n2⟩
    · rw [q2]
  have fr : ∀ w : XS, (∀ q k, q ≠ 10 → w.1 q k = y.1 q k) → w.2 = y.2 → (∀ q k, q ≠ 10 → w.1 q k = y0.1 q k) ∧ w.2 = y0.2 := fun w a b => ⟨fun q k h => (a q k h).trans (h2 q k h), b.trans h3⟩
  unfold hsF
  by_cases cu : y.1 10 u = nI f
  · have cu0 := hu1.mp cu
    rw [if_pos cu]
    by_cases cv : y.1 10 v = -1
    · rw [if_pos cv]
      refine ⟨fun a ha => ?_, fr _ (fun q k h => rdI_ne h) rfl⟩
      by_cases e : a = v
      · subst e
        rcases h1 a ha with ⟨-, q2⟩ | ⟨-, q2⟩
        · exact absurd (q2.symm.trans cv) n1
        · exact Or.inl ⟨⟨q2.symm.trans cv, u, hu, cu0, Or.inr ⟨rfl, rfl⟩⟩, rdI_eq.trans (nI_addN f 1)⟩
      · rw [rdI_nk e]
        rcases h1 a ha with ⟨⟨q1, b, b1, b2, b3⟩, q2⟩ | ⟨q1, q2⟩
        · exact Or.inl ⟨⟨q1, b, b1, b2, Or.inl b3⟩, q2⟩
        · exact Or.inr ⟨fun ⟨p1, b, b1, b2, b3⟩ => q1 ⟨p1, b, b1, b2, b3.resolve_right (fun h => e h.2)⟩, q2⟩
    · rw [if_neg cv]
      refine ⟨fun a ha => ?_, h2, h3⟩
      rcases h1 a ha with ⟨⟨q1, b, b1, b2, b3⟩, q2⟩ | ⟨q1, q2⟩
      · exact Or.inl ⟨⟨q1, b, b1, b2, Or.inl b3⟩, q2⟩
      · refine Or.inr ⟨fun ⟨p1, b, b1, b2, b3⟩ => ?_, q2⟩
        rcases b3 with b3 | ⟨-, b3⟩
        · exact q1 ⟨p1, b, b1, b2, b3⟩
        · rw [b3] at q2 p1; exact cv (q2.trans p1)
  · rw [if_neg cu]
    refine ⟨fun a ha => ?_, h2, h3⟩
    rcases h1 a ha with ⟨⟨q1, b, b1, b2, b3⟩, q2⟩ | ⟨q1, q2⟩
    · exact Or.inl ⟨⟨q1, b, b1, b2, Or.inl b3⟩, q2⟩
    · refine Or.inr ⟨fun ⟨p1, b, b1, b2, b3⟩ => ?_, q2⟩
      rcases b3 with b3 | ⟨b3, -⟩
      · exact q1 ⟨p1, b, b1, b2, b3⟩
      · rw [b3] at b2; exact cu (hu1.mpr b2)
theorem PE_cong {y0 y : XS} {f : Nat} {E E' : Nat → Nat → Prop} (h : ∀ a b, E a b ↔ E' a b) (hP : PE y0 f E y) : PE y0 f E' y := by
  have : E = E' := funext fun a => funext fun b => propext (h a b)
  rw [← this]; exact hP
theorem stk_PE {z y0 y : XS} {F S : Nat} {l r : Nat → Nat} {s : Int32} {f : Nat} (hf : f < 100) (hB : BkZ z F S l r) (hz : ∀ q k, q ≠ 10 → y0.1 q k = z.1 q k) (h15 : z.1 0 15 = s) {j : Nat} (hj : j < S) (hP : PE y0 f (fun a b => stA l r s j a b = true) y) : PE y0 f (fun a b => stA l r s (j + 1) a b = true) (stkF (nI f) j y) := by
  have hF := hB.1
  have hS := hB.2.1
  obtain ⟨hl, hr⟩ := hB.2.2.2.2.1 j hj
  obtain ⟨el, er⟩ := hB.2.2.2.2.2 j hj
  obtain ⟨-, -, -, xl, xl2⟩ := small20 (l j) (by omega)
  obtain ⟨-, -, -, xr, xr2⟩ := small20 (r j) (by omega)
  have g : ∀ q k, q ≠ 10 → y.1 q k = z.1 q k := fun q k h => (hP.2.1 q k h).trans (hz q k h)
  unfold stkF
  rw [g 0 15 (by decide), h15, mhasB_bit (show j < 32 by omega), one_eq (x := z) (fun i => g 12 i (by decide)) (fun i => g 13 i (by decide)), other_eq (x := z) (fun i => g 12 i (by decide)) (fun i => g 14 i (by decide)), el, er]
  cases hb : bit s j with
  | false =>
    rw [if_neg (by decide)]
    refine PE_cong (fun a b => ?_) hP
    show _ ↔ (stA l r s j a b || (bit s j && _)) = true
    rw [hb, Bool.false_and, Bool.or_false]
  | true =>
    rw [if_pos rfl]
    have e : stpF (nI (l j)) (nI (r j)) (nI f) y = hsF (r j ^^^ 1) (l j) (nI f) (hsF (l j ^^^ 1) (r j) (nI f) y) := by
      unfold stpF hsF
      rw [xl, xr, nI_clamp (by omega), nI_clamp (by omega), nI_clamp (by omega), nI_clamp (by omega)]
    rw [e]
    refine PE_cong (fun a b => ?_) (hs_PE hf xr2 (show l j < 20 by omega) (hs_PE hf xl2 (show r j < 20 by omega) hP))
    show _ ↔ (stA l r s j a b || (bit s j && ((decide (a = l j ^^^ 1) && decide (b = r j)) || (decide (a = r j ^^^ 1) && decide (b = l j))))) = true
    rw [hb]
    simp only [Bool.true_and, Bool.or_eq_true, Bool.and_eq_true, decide_eq_true_iff, or_assoc]
def Awy (E : Mat) (d f : Nat) (y : XS) : Prop := ∀ a, a < 20 → (y.1 10 a = -1 ∧ lv E d f a = false) ∨ ∃ k, k ≤ f ∧ y.1 10 a = nI k ∧ lv E d k a = true ∧ ∀ i, i < k → lv E d i a = false
theorem aw_step {E : Mat} {d f : Nat} (hf : f < 100) {y0 y : XS} (h : Awy E d f y0) (hP : PE y0 f (fun a b => E a b = true) y) : Awy E d (f + 1) y := by
  intro a ha
  have n2 : ∀ k, k ≤ f → nI k ≠ -1 := fun k hk => nI_ne1 (by omega)
  rcases hP.1 a ha with ⟨⟨q1, b, b1, b2, b3⟩, q2⟩ | ⟨q1, q2⟩
  · rcases h a ha with ⟨-, p2⟩ | ⟨k, k1, k2, -⟩
    · refine Or.inr ⟨f + 1, Nat.le_refl _, q2, ?_, fun i hi => ?_⟩
      · rcases h b b1 with ⟨p3, -⟩ | ⟨k, k1, k2, k3, -⟩
        · exact absurd (b2.symm.trans p3) (n2 f (Nat.le_refl f))
        · exact lv_succ.mpr (Or.inr ⟨b, b1, lv_le k1 k3, b3⟩)
      · cases hb : lv E d i a with
        | false => rfl
        | true => rw [lv_le (show i ≤ f by omega) hb] at p2; cases p2
    · exact absurd (k2.symm.trans q1) (n2 k k1)
  · rcases h a ha with ⟨p1, p2⟩ | ⟨k, k1, k2, k3⟩
    · refine Or.inl ⟨q2.trans p1, ?_⟩
      cases hb : lv E d (f + 1) a with
      | false => rfl
      | true =>
        rcases lv_succ.mp hb with hb | ⟨b, b1, b2, b3⟩
        · rw [hb] at p2; cases p2
        · refine absurd ⟨p1, b, b1, ?_, b3⟩ q1
          rcases h b b1 with ⟨-, p4⟩ | ⟨k, k1, k2, k3, k4⟩
          · rw [b2] at p4; cases p4
          · by_cases e : k = f
            · rw [← e]; exact k2
            · have : lv E d (k + 1) a = true := lv_succ.mpr (Or.inr ⟨b, b1, k3, b3⟩)
              rw [lv_le (show k + 1 ≤ f by omega) this] at p2; cases p2
    · exact Or.inr ⟨k, by omega, q2.trans k2, k3⟩
theorem bt_eq {z : XS} {F S : Nat} {l r : Nat → Nat} {s : Int32} (hB : BkZ z F S l r) (h15 : z.1 0 15 = s) {c d k0 : Nat} (hc : c < 20) (hk : k0 < 50) (h1 : lv (stA l r s S) d k0 c = true) (h2 : ∀ i, i < k0 → lv (stA l r s S) d i c = false) : ∀ (n f : Nat) (y : XS), k0 - f < n → f ≤ k0 → Awy (stA l r s S) d f y → (∀ q k, q ≠ 10 → y.1 q k = z.1 q k) → y.2 = z.2 →
    ∃ y', btL c n (nI f) y = some y' ∧ y'.1 10 c = nI k0 ∧ (∀ q k, q ≠ 10 → y'.1 q k = z.1 q k) ∧ y'.2 = z.2
  | 0, _, _, h, _, _, _, _ => absurd h (Nat.not_lt_zero _)
  | n + 1, f, y, hn, hf, hA, hz, hz2 => by
    have hS := hB.2.1
    rw [btL]
    rcases hA c hc with ⟨p1, p2⟩ | ⟨k, k1, k2, k3, k4⟩
    · rw [if_pos p1, hz 11 1 (by decide), hB.2.2.2.1, nI_clamp (by omega), show nI f + 1 = nI (f + 1) from nI_addN f 1]
      have hlt : f ≠ k0 := fun e => by rw [e, h1] at p2; cases p2
      have h7 := itP_rel (f := stkF (nI f)) (n := S) (y := y) (P := fun j u => PE y f (fun a b => stA l r s j a b = true) u)
        ⟨fun a ha => Or.inr ⟨fun ⟨_, b, _, _, b3⟩ => (by cases b3), rfl⟩, fun _ _ _ => rfl, rfl⟩
        (fun j hj u hu => stk_PE (by omega) hB hz h15 hj hu)
      exact bt_eq hB h15 hc hk h1 h2 n (f + 1) _ (by omega) (by omega) (aw_step (by omega) hA h7) (fun q k h => (h7.2.1 q k h).trans (hz q k h)) (h7.2.2.trans hz2)
    · rw [if_neg (by rw [k2]; exact nI_ne1 (by omega))]
      refine ⟨y, rfl, ?_, hz, hz2⟩
      have : k = k0 := by
        rcases Nat.lt_trichotomy k k0 with q | q | q
        · rw [h2 k q] at k3; cases k3
        · exact q
        · rw [k4 k0 q] at h1; cases h1
      rw [← this]; exact k2
theorem bt0_aw {E : Mat} {d : Nat} (hd : d < 20) (z : XS) : Awy E d 0 (bt0 d z) ∧ (∀ q k, q ≠ 10 → (bt0 d z).1 q k = z.1 q k) ∧ (bt0 d z).2 = z.2 := by
  unfold bt0
  have h7 := itP_rel (f := fun j y => setI y 10 (j : Nat) (-1)) (n := 20) (y := z) (P := fun j (y : XS) => (∀ a, a < j → y.1 10 a = -1) ∧ (∀ q k, q ≠ 10 → y.1 q k = z.1 q k) ∧ y.2 = z.2)
    ⟨fun a h => absurd h (Nat.not_lt_zero a), fun _ _ _ => rfl, rfl⟩
    (fun j hj y hy => ⟨fun a ha => (by
      by_cases e : a = j
      · rw [e]; exact rdI_eq
      · rw [rdI_nk e]; exact hy.1 a (by omega)), fun q k h => (rdI_ne h).trans (hy.2.1 q k h), hy.2.2⟩)
  generalize itP (fun j y => setI y 10 (j : Nat) (-1)) 20 z = w at h7
  obtain ⟨w1, w2, w3⟩ := h7
  refine ⟨fun a ha => ?_, fun q k h => (rdI_ne h).trans (w2 q k h), w3⟩
  by_cases e : a = d
  · exact Or.inr ⟨0, Nat.le_refl 0, by rw [e]; exact rdI_eq, decide_eq_true e, fun i hi => absurd hi (Nat.not_lt_zero i)⟩
  · exact Or.inl ⟨by rw [rdI_nk e]; exact w1 a ha, decide_eq_false e⟩
