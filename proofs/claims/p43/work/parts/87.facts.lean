/-! What the law checks, as facts of the answers -/
theorem nW_def (b : Bok) (m c : Nat) : nW b m c = fb_ct (fun p => Pm b m p && holdsP p c) (2 ^ bF b) := rfl
theorem cN_c (b : Bok) (m c : Nat) : cN (Pm b m) (bF b) (2 + c) = nW b m c := by
  rw [cN, if_neg (by omega), if_neg (by omega), Nat.add_sub_cancel_left]; rfl
theorem cN_1 {b : Bok} (hW : BW b) (m : Nat) : cN (Pm b m) (bF b) 1 = fb_sm (fun f => nW b m (2 * f)) (bF b) := by
  rw [cN, if_neg (by omega), if_pos rfl]
  exact (ride_sum (by have := hW.1; omega)).symm
theorem PA_at {l r : Nat → Nat} {s : Int32} {p : Nat} : ∀ {n : Nat}, PA l r s n p = true → ∀ k, k < n → bit s k = true → (holdsP p (l k) || holdsP p (r k)) = true
  | 0, _, k, hk, _ => absurd hk (Nat.not_lt_zero _)
  | n + 1, h, k, hk, hb => by
    have h2 : (PA l r s n p && (!bit s n || (holdsP p (l n) || holdsP p (r n)))) = true := h
    rw [Bool.and_eq_true] at h2
    by_cases e : k = n
    · subst e
      have h3 := h2.2
      rw [hb] at h3
      simpa using h3
    · exact PA_at h2.1 k (by omega) hb
theorem PA_le {l r : Nat → Nat} {s u : Int32} {p : Nat} : ∀ {n : Nat}, (∀ k, k < n → bit u k = true → bit s k = true) → PA l r s n p = true → PA l r u n p = true
  | 0, _, _ => rfl
  | n + 1, h, e => by
    have h2 : (PA l r s n p && (!bit s n || (holdsP p (l n) || holdsP p (r n)))) = true := e
    rw [Bool.and_eq_true] at h2
    show (PA l r u n p && (!bit u n || (holdsP p (l n) || holdsP p (r n)))) = true
    rw [PA_le (fun k hk => h k (by omega)) h2.1, Bool.true_and]
    cases hu : bit u n with
    | false => rfl
    | true =>
      have := h2.2
      rw [h n (by omega) hu] at this
      exact this
theorem holds_step {b : Bok} (hW : BW b) {m : Nat} (hm : m < 2 ^ 32) {c d p : Nat} (hP : Pm b m p = true) (hE : EB b m c d = true) (hc : holdsP p c = true) : holdsP p d = true := by
  have hF := hW.1
  obtain ⟨s, hs, hb, h⟩ := (st_edge hm).mp hE
  have hlr := hW.lr s hs
  have h2 := PA_at hP s hs (by rw [bit_nI hm]; exact hb)
  rcases h with ⟨e1, e2⟩ | ⟨e1, e2⟩
  · subst e1; subst e2
    rw [holds_not _ (by omega)] at hc
    cases hl : holdsP p (bl b s) with
    | true => rw [hl] at hc; cases hc
    | false => rw [hl, Bool.false_or] at h2; exact h2
  · subst e1; subst e2
    rw [holds_not _ (by omega)] at hc
    cases hl : holdsP p (br b s) with
    | true => rw [hl] at hc; cases hc
    | false => rw [hl, Bool.or_false] at h2; exact h2
theorem lv_zero {E : Mat} {d c : Nat} : lv E d 0 c = true ↔ c = d := by
  show (decide (c = d)) = true ↔ _
  exact decide_eq_true_iff
theorem holds_lv {b : Bok} (hW : BW b) {m : Nat} (hm : m < 2 ^ 32) {c p : Nat} (hP : Pm b m p = true) (hc : holdsP p c = true) : ∀ (j d : Nat), lv (EB b m) c j d = true → holdsP p d = true
  | 0, d, h => by rw [lv_zero.mp h]; exact hc
  | j + 1, d, h => by
    rcases lv_succ.mp h with h | ⟨a, _, h1, h2⟩
    · exact holds_lv hW hm hP hc j d h
    · exact holds_step hW hm hP h2 (holds_lv hW hm hP hc j a h1)
theorem holds_RR {b : Bok} (hW : BW b) {m : Nat} (hm : m < 2 ^ 32) {c d p : Nat} (hcF : c < 2 * bF b) (hdF : d < 2 * bF b) (hP : Pm b m p = true) (hR : RB b m c d = true) (hc : holdsP p c = true) : holdsP p d = true := by
  have hF := hW.1
  exact holds_lv hW hm hP hc 20 d ((RR_lv (by omega) hW.lr (by omega) (by omega)).mp hR)
theorem nW_le_of {b : Bok} (hW : BW b) {m : Nat} (hm : m < 2 ^ 32) {c d : Nat} (hc : c < 2 * bF b) (hd : d < 2 * bF b) (hR : RB b m c d = true) : nW b m c ≤ nW b m d := by
  refine fb_ct_sub (fun p _ h => ?_)
  have h1 : (Pm b m p && holdsP p c) = true := h
  rw [Bool.and_eq_true] at h1
  show (Pm b m p && holdsP p d) = true
  rw [h1.1, holds_RR hW hm hc hd h1.1 hR h1.2]; rfl
theorem nW_opp {b : Bok} (hW : BW b) (m : Nat) {c : Nat} (hc : c < 2 * bF b) : nW b m c + nW b m (c ^^^ 1) = nP b m := by
  have hF := hW.1
  rw [nW_def, nW_def, ← fb_ct_or (fun p _ h => ?_)]
  · refine fb_ct_cong (fun p _ => ?_)
    rw [holds_not _ (by omega)]
    cases Pm b m p <;> cases holdsP p c <;> rfl
  · obtain ⟨h1, h2⟩ := h
    rw [Bool.and_eq_true] at h1 h2
    have h3 := h2.2
    rw [holds_not _ (by omega), h1.2] at h3
    cases h3
theorem RB_refl {b : Bok} {m : Nat} (c : Nat) : RB b m c c = true := RR_refl c
theorem RB_tr {b : Bok} (hW : BW b) {m c d e : Nat} (h1 : RB b m c d = true) (h2 : RB b m d e = true) : RB b m c e = true := RR_trans (by have := hW.1; omega) hW.lr h1 h2
theorem RB_opp {b : Bok} (hW : BW b) {m c d : Nat} (h1 : RB b m c d = true) : RB b m (d ^^^ 1) (c ^^^ 1) = true := RR_contra (by have := hW.1; omega) hW.lr h1
theorem RB_opp2 {b : Bok} (hW : BW b) {m c d : Nat} (hc : c < 2 * bF b) (hd : d < 2 * bF b) : RB b m (d ^^^ 1) (c ^^^ 1) = RB b m c d := by
  have hF := hW.1
  cases h : RB b m c d with
  | true => exact RB_opp hW h
  | false =>
    cases h2 : RB b m (d ^^^ 1) (c ^^^ 1) with
    | false => rfl
    | true =>
      have h3 := RB_opp hW h2
      rw [x1x1 c (by omega), x1x1 d (by omega), h] at h3
      cases h3
theorem lst_p {b : Bok} (hW : BW b) {m c : Nat} (hc : c < 2 * bF b) : lst (RB b m) c ≤ c ∧ RB b m (lst (RB b m) c) c = true ∧ RB b m c (lst (RB b m) c) = true ∧ ∀ j, j < lst (RB b m) c → (RB b m j c && RB b m c j) = false := by
  have hF := hW.1
  obtain ⟨h1, h2, h3⟩ := lst_lt (A := RB b m) hc (by omega) (RB_refl c)
  rw [Bool.and_eq_true] at h2
  exact ⟨h1, h2.1, h2.2, h3⟩
theorem part_eq {b : Bok} (hW : BW b) {m c d : Nat} (hc : c < 2 * bF b) (hd : d < 2 * bF b) : (lst (RB b m) d = lst (RB b m) c) ↔ (RB b m d c && RB b m c d) = true := by
  obtain ⟨c1, c2, c3, c4⟩ := lst_p hW (m := m) hc
  obtain ⟨d1, d2, d3, d4⟩ := lst_p hW (m := m) hd
  constructor
  · intro e
    rw [Bool.and_eq_true]
    rw [e] at d2 d3
    exact ⟨RB_tr hW d3 c2, RB_tr hW c3 d2⟩
  · intro e
    rw [Bool.and_eq_true] at e
    apply Nat.le_antisymm
    · apply Nat.not_lt.mp
      intro h
      have := d4 _ h
      rw [RB_tr hW c2 e.2, RB_tr hW e.1 c3] at this
      cases this
    · apply Nat.not_lt.mp
      intro h
      have := c4 _ h
      rw [RB_tr hW d2 e.1, RB_tr hW e.2 d3] at this
      cases this
theorem part_self {b : Bok} (hW : BW b) {m c : Nat} (hc : c < 2 * bF b) : lst (RB b m) (lst (RB b m) c) = lst (RB b m) c := by
  obtain ⟨c1, c2, c3, c4⟩ := lst_p hW (m := m) hc
  refine (part_eq hW hc (by omega)).mpr ?_
  rw [c2, c3]; rfl
theorem size_eq {b : Bok} (hW : BW b) {m c : Nat} (hc : c < 2 * bF b) : fb_ct (fun o => decide (lst (RB b m) o = lst (RB b m) c)) (2 * bF b) = nM b m c := by
  refine fb_ct_cong (fun o ho => ?_)
  cases h : (RB b m o c && RB b m c o) with
  | true => exact decide_eq_true ((part_eq hW hc ho).mpr h)
  | false => exact decide_eq_false (fun e => by rw [(part_eq hW hc ho).mp e] at h; cases h)
theorem ct_x1 (p : Nat → Bool) (h : ∀ c, c < 20 → c ^^^ 1 = oppN c) : ∀ F, F ≤ 10 → fb_ct (fun i => p (i ^^^ 1)) (2 * F) = fb_ct p (2 * F)
  | 0, _ => rfl
  | F + 1, hF => by
    rw [show 2 * (F + 1) = 2 * F + 1 + 1 by omega, fb_ct_succ, fb_ct_succ, fb_ct_succ, fb_ct_succ, ct_x1 p h F (by omega), h (2 * F) (by omega), h (2 * F + 1) (by omega), show oppN (2 * F) = 2 * F + 1 from if_pos (by omega), show oppN (2 * F + 1) = 2 * F from if_neg (by omega)]
    omega
theorem size_opp {b : Bok} (hW : BW b) {m c : Nat} (hc : c < 2 * bF b) : nM b m (c ^^^ 1) = nM b m c := by
  have hF := hW.1
  unfold nM
  rw [← ct_x1 _ (fun c hc => (opp_x c hc).symm) (bF b) (by omega)]
  refine fb_ct_cong (fun i hi => ?_)
  rw [RB_opp2 hW hc hi, RB_opp2 hW hi hc, Bool.and_comm]
theorem mut_zero {b : Bok} (hW : BW b) {m f : Nat} (hm : m < 2 ^ 32) (hf : f < bF b) (h : mutB b m f = true) : nP b m = 0 := by
  have hF := hW.1
  refine fb_ct_zero.mpr (fun p _ => ?_)
  cases hP : Pm b m p with
  | false => rfl
  | true =>
    have h2 : (RB b m (2 * f) (2 * f + 1) && RB b m (2 * f + 1) (2 * f)) = true := h
    rw [Bool.and_eq_true] at h2
    have e : holdsP p (2 * f + 1) = !holdsP p (2 * f) := by
      have := holds_not (2 * f) (by omega) p
      rwa [← opp_x _ (by omega), show oppN (2 * f) = 2 * f + 1 from if_pos (by omega)] at this
    cases h3 : holdsP p (2 * f) with
    | true =>
      have := holds_RR hW hm (by omega) (by omega) hP h2.1 h3
      rw [e, h3] at this; cases this
    | false =>
      have h4 : holdsP p (2 * f + 1) = true := by rw [e, h3]; rfl
      have := holds_RR hW hm (by omega) (by omega) hP h2.2 h4
      rw [h3] at this; cases this
theorem mut_part {b : Bok} (hW : BW b) {m f : Nat} (hf : f < bF b) : mutB b m f = decide (lst (RB b m) (2 * f) = lst (RB b m) (2 * f + 1)) := by
  cases h : mutB b m f with
  | true => exact (decide_eq_true ((part_eq hW (by omega) (by omega)).mpr h)).symm
  | false => exact (decide_eq_false (fun e => by rw [show mutB b m f = true from (part_eq hW (by omega) (by omega)).mp e] at h; cases h)).symm
theorem mean_cmp {u v : Int32} (hb : v ≠ 0) : FP.dcmp (FP.ddiv (FP.i2d u) (FP.i2d v)) (FP.ddiv (FP.i2d u) (FP.i2d v)) = some .eq := by
  have h1 : FP.Core.dIsNaN (FP.Core.i2d u) = false := by
    cases h : FP.Core.dIsNaN (FP.Core.i2d u) with
    | false => rfl
    | true => exact absurd ((FP.Core.dIsNaN_iff _).mp h) (FP.Core.i2d_fin u).ne_nan
  have h2 := FP.Core.ddiv_out h1 (FP.Core.i2d_fin v) (fun hz => FP.Core.i2d_ne_zero hb ((FP.Core.zero_bits2 _).mp hz))
  exact FP.Core.dcmp_self ((FP.Core.notNaN_iff _).mp h2)
theorem lv_opp {b : Bok} (hW : BW b) {m : Nat} {d : Nat} (hd : d < 20) : ∀ (j c : Nat), c < 20 → lv (EB b m) d j c = true → lv (EB b m) (c ^^^ 1) j (d ^^^ 1) = true
  | 0, c, hc, h => by rw [lv_zero.mp h]; exact lv_zero.mpr rfl
  | j + 1, c, hc, h => by
    have hF := hW.1
    rcases lv_succ.mp h with h | ⟨a, ha, h1, h2⟩
    · exact lv_mono (lv_opp hW hd j c hc h) 1
    · have h3 := lv_opp hW hd j a ha h1
      have h4 : EB b m (c ^^^ 1) (a ^^^ 1) = true := st_contra (by omega) hW.lr (bS b) (Nat.le_refl _) h2
      have hl := EB_lt hW h4
      have h5 : lv (EB b m) (c ^^^ 1) 1 (a ^^^ 1) = true := lv_succ.mpr (Or.inr ⟨c ^^^ 1, by omega, lv_zero.mpr rfl, h4⟩)
      have := lv_trans h5 h3
      rwa [Nat.add_comm] at this
