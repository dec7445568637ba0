/-! Statements broken and renewed; the most telling oath -/
theorem Bk.setm {R : XS → XS → Prop} (hR : Stab R) {x z : XS} {F S : Nat} {l r : Nat → Nat} {m m' : Nat} (h : Bk R x z F S l r m) (hm : m' < 2 ^ S) : Bk R (setI x 46 1 (nI m')) (setI z 0 15 (nI m')) F S l r m' := by
  have e1 : ∀ q k, q ≠ 46 ∨ k ≠ 1 → (setI x 46 1 (nI m')).1 q k = x.1 q k := fun q k h => by
    rcases h with h | h
    · exact rdI_ne h
    · exact rdI_nk h
  have e2 : ∀ q k, q ≠ 0 ∨ k ≠ 15 → (setI z 0 15 (nI m')).1 q k = z.1 q k := fun q k h => by
    rcases h with h | h
    · exact rdI_ne h
    · exact rdI_nk h
  refine ⟨BkX_of (fun q k hq => e1 q k (by omega)) h.bx, BkZ_of (fun q k hq => e2 q k (by omega)) h.bz, PeaB_of (e1 _ _ (by omega)) (fun k => rfl) h.pea, fun k hk => ?_, hm, rdI_eq, rdI_eq, ?_, ?_, ?_, ?_, ?_, ?_, hR h.rest (fun q hq k => ⟨e1 q k (by omega), rfl⟩) ⟨fun q k hq => e2 q k (by omega), e2 _ _ (by omega), e2 _ _ (by omega)⟩⟩
  · rw [kind_eq (z := z) (fun i => e2 12 i (by omega)), e1 _ _ (by omega), e1 _ _ (by omega), e1 _ _ (by omega), e2 _ _ (by omega), e2 _ _ (by omega)]
    exact h.kin k hk
  · rw [e1 _ _ (by omega), e2 _ _ (by omega)]; exact h.dy
  · rw [e1 _ _ (by omega), e2 _ _ (by omega)]; exact h.co
  · rw [e1 _ _ (by omega)]; exact h.web.imp id (WebC_of (fun q k hq => e1 q k (by omega)))
  · rw [e1 _ _ (by omega)]; exact h.land.imp id (LandC_of (e1 _ _ (by omega)) (fun k => rfl))
  · rw [e2 _ _ (by omega)]; exact h.fol.imp id (FolC_of (fun k => e2 _ _ (by omega)) (e2 _ _ (by omega)))
  · rw [e2 _ _ (by omega)]; exact h.look.imp id (LookC_of (fun k => e2 _ _ (by omega)) (fun k hk => e2 _ _ (by omega)))
theorem xor_lt {S m k : Nat} (hm : m < 2 ^ S) (hk : k < S) : m ^^^ 2 ^ k < 2 ^ S := Nat.xor_lt_two_pow hm (Nat.pow_lt_pow_right (by decide) hk)
theorem xor_bit {m k : Nat} (hm : m < 2 ^ 20) (hk : k < 20) (j : Nat) : bit (nI (m ^^^ 2 ^ k)) j = (bit (nI m) j ^^ decide (j = k)) := by
  have := xor_lt hm hk
  rw [bit_nI (by omega), bit_nI (by omega), Nat.testBit_xor, Nat.testBit_two_pow]
  congr 1
  exact decide_eq_decide.mpr ⟨fun h => h.symm, fun h => h.symm⟩
theorem xor_nI {m k : Nat} (hm : m < 2 ^ 20) (hk : k < 20) : nI m ^^^ ((1 : Int32) <<< (nI k &&& 31)) = nI (m ^^^ 2 ^ k) := by
  apply bit_ext
  intro j hj
  rw [xor_bit hm hk, ← bit_shl1 (show k < 32 by omega) hj]
  unfold bit
  rw [Int32.toBitVec_xor, BitVec.getLsbD_xor]
theorem without_nI {m k : Nat} (hm : m < 2 ^ 20) (hk : k < 20) (hb : bit (nI m) k = true) : withoutI (nI m) (nI k) = nI (m ^^^ 2 ^ k) := by
  apply bit_ext
  intro j hj
  rw [xor_bit hm hk, bit_without (by omega) hj]
  by_cases e : j = k
  · rw [e, hb, decide_eq_true rfl]; rfl
  · rw [decide_eq_false e]; simp
theorem with_nI {m k : Nat} (hm : m < 2 ^ 20) (hk : k < 20) (hb : bit (nI m) k = false) : withI (nI m) (nI k) = nI (m ^^^ 2 ^ k) := by
  apply bit_ext
  intro j hj
  rw [xor_bit hm hk, bit_with (by omega) hj]
  by_cases e : j = k
  · rw [e, hb, decide_eq_true rfl]; rfl
  · rw [decide_eq_false e]; simp
theorem ag_break {R : XS → XS → Prop} (hR : Stab R) (p : Int32) : AgT (IV R) code2 cvI (fun E => E = "java/lang/IndexOutOfBoundsException" ∨ E = "java/lang/IllegalStateException") (f_X8_breakStatement p) (f_X10_breakStatement p) := by
  rintro x z ⟨F, S, l, r, m, h⟩
  have h0 := h.r0 hR
  unfold f_X8_breakStatement f_X10_breakStatement
  rw [show setI z 0 0 0 = r0 z from rfl]
  have hS := h.bx.2.1
  have hm := small_m hS h.lm
  rcases needSt h.bx h0.bz p with ⟨k, k1, rfl, k3, k4⟩ | ⟨k3, k4⟩
  · rw [k3, if_neg (b2i_n k4), h0.zs, mhasB_bit (show k < 32 by omega)]
    simp only [ob_some1, rbo_inr1]
    unfold f_X8_needStanding turnF
    rw [h.xs, h0.zs, hasB_bit (show k < 32 by omega)]
    cases hb : bit (nI m) k with
    | false =>
      rw [if_pos (show b2i false = 0 from rfl), if_pos (show b2i false = 0 from rfl)]
      exact Or.inl ⟨_, x, _, rfl, rfl, (z00 _ _).trans code2_2.symm, Or.inr rfl, IVi (h0.z0 hR 2)⟩
    | true =>
      rw [if_neg (show ¬ b2i true = 0 by decide), if_neg (show ¬ b2i true = 0 by decide)]
      simp only [ob_some1, rbo_inr1]
      rw [h.xs, without_nI hm (by omega) hb, xor_nI hm (by omega)]
      refine Or.inr ⟨_, _, _, rfl, rfl, ?_, ?_, IVi (h0.setm hR (xor_lt h.lm k1))⟩
      · show (setI (r0 z) 0 15 _).1 0 0 = 0
        rw [rdI_nk (by decide)]; exact r00 z
      · show cvI (bcI ((setI x 46 1 _).1 46 1)) = cvI (bcI ((setI (r0 z) 0 15 _).1 0 15))
        rw [rdI_eq, rdI_eq]
  · rw [k3, if_pos (b2i_f k4)]
    exact Or.inl ⟨_, x, _, rfl, rfl, (z00 _ _).trans code2_1.symm, Or.inl rfl, IVi (h0.z0 hR 1)⟩
theorem ag_renew {R : XS → XS → Prop} (hR : Stab R) (p : Int32) : AgT (IV R) code2 cvI (fun E => E = "java/lang/IndexOutOfBoundsException" ∨ E = "java/lang/IllegalStateException") (f_X8_renewStatement p) (f_X10_renewStatement p) := by
  rintro x z ⟨F, S, l, r, m, h⟩
  have h0 := h.r0 hR
  unfold f_X8_renewStatement f_X10_renewStatement
  rw [show setI z 0 0 0 = r0 z from rfl]
  have hS := h.bx.2.1
  have hm := small_m hS h.lm
  rcases needSt h.bx h0.bz p with ⟨k, k1, rfl, k3, k4⟩ | ⟨k3, k4⟩
  · rw [k3, if_neg (b2i_n k4), h0.zs, mhasB_bit (show k < 32 by omega)]
    simp only [ob_some1, rbo_inr1]
    unfold turnF
    rw [h.xs, h0.zs, hasB_bit (show k < 32 by omega)]
    cases hb : bit (nI m) k with
    | false =>
      rw [if_pos (show b2i false = 0 from rfl), if_pos (show b2i false = 0 from rfl)]
      rw [with_nI hm (by omega) hb, xor_nI hm (by omega)]
      refine Or.inr ⟨_, _, _, rfl, rfl, ?_, ?_, IVi (h0.setm hR (xor_lt h.lm k1))⟩
      · show (setI (r0 z) 0 15 _).1 0 0 = 0
        rw [rdI_nk (by decide)]; exact r00 z
      · show cvI (bcI ((setI x 46 1 _).1 46 1)) = cvI (bcI ((setI (r0 z) 0 15 _).1 0 15))
        rw [rdI_eq, rdI_eq]
    | true =>
      rw [if_neg (show ¬ b2i true = 0 by decide), if_neg (show ¬ b2i true = 0 by decide)]
      exact Or.inl ⟨_, x, _, rfl, rfl, (z00 _ _).trans code2_2.symm, Or.inr rfl, IVi (h0.z0 hR 2)⟩
  · rw [k3, if_pos (b2i_f k4)]
    exact Or.inl ⟨_, x, _, rfl, rfl, (z00 _ _).trans code2_1.symm, Or.inl rfl, IVi (h0.z0 hR 1)⟩
theorem nI_leq {a b : Nat} (ha : a < 2 ^ 31) (hb : b < 2 ^ 31) : nI a ≤ nI b ↔ a ≤ b := by rw [le_nI hb, nI_clamp ha]
theorem nI_le0 {a : Nat} (ha : a < 2 ^ 31) : nI a ≤ 0 ↔ a = 0 := by
  rw [show (0 : Int32) = nI 0 from rfl, nI_leq ha (by decide)]; omega
theorem nI_eq0 {a : Nat} (ha : a < 2 ^ 31) : nI a = 0 ↔ a = 0 := by
  rw [show (0 : Int32) = nI 0 from rfl, nI_inj ha (by decide)]
theorem ct_1024 {P : Nat → Bool} {F : Nat} (hF : F ≤ 10) : fb_ct P (2 ^ F) ≤ 1024 := Nat.le_trans (fb_ct_le _ _) (by obtain ⟨-, h, -⟩ := pow10 F (by omega); exact h)
theorem mt_loop {R : XS → XS → Prop} (hR : Stab R) {y : XS} {F S : Nat} {l r : Nat → Nat} {m : Nat} (hC : LookC y F S l r (nI m)) (hne : ∃ c, c < 2 * F ∧ fb_ct (fun p => PA l r (nI m) S p && holdsP p c) (2 ^ F) ≠ 0) :
    ∀ (n j : Nat) (l1 l2 : Int32) (x : XS), Bk R x y F S l r m → 2 * F - j < n → j ≤ 2 * F →
      ((l2 = 0 ∧ itP (mtF y) j (-1) = -1 ∧ ∀ c, c < j → fb_ct (fun p => PA l r (nI m) S p && holdsP p c) (2 ^ F) = 0) ∨ ∃ d, d < j ∧ itP (mtF y) j (-1) = nI d ∧ l1 = nI d ∧ l2 = nI (fb_ct (fun p => PA l r (nI m) S p && holdsP p d) (2 ^ F)) ∧ fb_ct (fun p => PA l r (nI m) S p && holdsP p d) (2 ^ F) ≠ 0) →
      ∃ x', f_X8_mostTellingOath_L30 n l1 l2 (nI j) x = some (.inr (some (.int (itP (mtF y) (2 * F) (-1))), x')) ∧ Bk R x' y F S l r m
  | 0, _, _, _, _, _, h, _, _ => absurd h (Nat.not_lt_zero _)
  | n + 1, j, l1, l2, x, hB, hn, hj, hi => by
    have hF := hB.bx.1
    rw [f_X8_mostTellingOath_L30, hB.bx.2.2.1, two_nI]
    by_cases hd : 2 * F ≤ j
    · have e : j = 2 * F := by omega
      subst e
      rw [if_pos ((nI_leq (by omega) (by omega)).mpr (Nat.le_refl _))]
      rcases hi with ⟨-, -, i3⟩ | ⟨d, -, i2, i3, -⟩
      · obtain ⟨c, c1, c2⟩ := hne
        exact absurd (i3 c c1) c2
      · exact ⟨x, by rw [i2, i3], hB⟩
    · rw [if_neg (fun h => hd ((nI_leq (by omega) (by omega)).mp h)), hB.cntw (by omega)]
      have hl := hB.landx hR
      have hst : itP (mtF y) (j + 1) (-1) = (if y.1 8 j ≤ 0 then itP (mtF y) j (-1) else if itP (mtF y) j (-1) = -1 then nI j else if y.1 8 (itP (mtF y) j (-1)).toNatClampNeg ≤ y.1 8 j then itP (mtF y) j (-1) else nI j) := rfl
      have h8 := hC.2.2.2 j (by omega)
      have hc := ct_1024 (P := fun p => PA l r (nI m) S p && holdsP p j) hF
      generalize hv : fb_ct (fun p => PA l r (nI m) S p && holdsP p j) (2 ^ F) = v at h8 hc
      rw [show nI j + 1 = nI (j + 1) from nI_addN j 1]
      rw [h8] at hst
      by_cases h1 : nI v ≤ 0
      · have hv0 := (nI_le0 (by omega)).mp h1
        rw [if_pos h1] at hst ⊢
        refine mt_loop hR hC hne n (j + 1) _ _ _ hl (by omega) (by omega) ?_
        rw [show itP (mtF y) (j + 1) (-1) = itP (mtF y) j (-1) from hst]
        rcases hi with ⟨i1, i2, i3⟩ | ⟨d, d1, d2⟩
        · refine Or.inl ⟨i1, i2, fun c hcj => ?_⟩
          by_cases e : c = j
          · rw [e, hv, hv0]
          · exact i3 c (by omega)
        · exact Or.inr ⟨d, by omega, d2⟩
      · have hv0 : v ≠ 0 := fun e => h1 ((nI_le0 (by omega)).mpr e)
        rw [if_neg h1] at hst ⊢
        rcases hi with ⟨i1, i2, i3⟩ | ⟨d, d1, d2, d3, d4, d5⟩
        · rw [if_pos i1]
          rw [i2, if_pos rfl] at hst
          refine mt_loop hR hC hne n (j + 1) _ _ _ hl (by omega) (by omega) ?_
          exact Or.inr ⟨j, by omega, hst, rfl, by rw [hv], by rw [hv]; exact hv0⟩
        · have hcd := ct_1024 (P := fun p => PA l r (nI m) S p && holdsP p d) hF
          rw [if_neg (show ¬ l2 = 0 by rw [d4]; exact fun e => d5 ((nI_eq0 (by omega)).mp e))]
          have h8d := hC.2.2.2 d (by omega)
          rw [d2, if_neg (nI_ne1 (by omega)), nI_clamp (by omega), h8d] at hst
          rw [d4]
          by_cases h2 : nI (fb_ct (fun p => PA l r (nI m) S p && holdsP p d) (2 ^ F)) ≤ nI v
          · rw [if_pos h2] at hst ⊢
            refine mt_loop hR hC hne n (j + 1) _ _ _ hl (by omega) (by omega) ?_
            exact Or.inr ⟨d, by omega, hst, d3, rfl, d5⟩
          · rw [if_neg h2] at hst ⊢
            refine mt_loop hR hC hne n (j + 1) _ _ _ hl (by omega) (by omega) ?_
            exact Or.inr ⟨j, by omega, hst, rfl, by rw [hv], by rw [hv]; exact hv0⟩
theorem ag_mostTelling {R : XS → XS → Prop} (hR : Stab R) : AgT (IV R) code1 cvI (fun E => E = "java/lang/IllegalStateException") (f_X8_mostTellingOath) (f_X10_mostTellingOath) := by
  rintro x z ⟨F, S, l, r, m, h⟩
  have h0 := h.r0 hR
  have hF := h.bx.1
  unfold f_X8_mostTellingOath f_X10_mostTellingOath
  rw [show setI z 0 0 0 = r0 z from rfl, cdec_t h0.mok, needPe h, og_true]
  obtain ⟨l1, l2⟩ := h0.lookz hR
  have g1 := l1.landx hR
  generalize hy : mlook ((r0 z).1 0 15) (r0 z) = y at l1 l2 g1
  have y00 : y.1 0 0 = 0 := by rw [← hy, mlook_00]; exact r00 z
  generalize landLook (x.1 46 1) x = x2 at g1
  rw [l2.1, g1.bz.2.2.1, cdec_t g1.mok, og_true]
  by_cases hc : nI (fb_ct (PA l r (nI m) S) (2 ^ F)) = 0
  · rw [if_pos hc, if_pos hc]
    exact Or.inl ⟨_, _, _, rfl, rfl, z00 _ _, rfl, IVi (g1.z0 hR 1)⟩
  · rw [if_neg hc, if_neg hc]
    simp only [ob_some1, rbo_inr1]
    rw [g1.bx.2.2.1]
    by_cases hf : nI F = 0
    · rw [if_pos hf, if_pos hf]
      exact Or.inl ⟨_, _, _, rfl, rfl, z00 _ _, rfl, IVi (g1.z0 hR 1)⟩
    · rw [if_neg hf, if_neg hf, two_nI, nI_clamp (by omega)]
      have hF0 : F ≠ 0 := fun e => hf ((nI_eq0 (by omega)).mpr e)
      have hne : ∃ c, c < 2 * F ∧ fb_ct (fun p => PA l r (nI m) S p && holdsP p c) (2 ^ F) ≠ 0 := by
        have hpos : 0 < fb_ct (PA l r (nI m) S) (2 ^ F) := by
          have : fb_ct (PA l r (nI m) S) (2 ^ F) ≠ 0 := fun e => hc (by rw [e]; rfl)
          omega
        obtain ⟨p, p1, p2⟩ := fb_ct_pos.mp hpos
        have key : ∀ c, holdsP p c = true → fb_ct (fun p => PA l r (nI m) S p && holdsP p c) (2 ^ F) ≠ 0 := fun c hh => by
          have := (fb_ct_pos (p := fun p => PA l r (nI m) S p && holdsP p c)).mpr ⟨p, p1, show (PA l r (nI m) S p && holdsP p c) = true by rw [p2, hh]; rfl⟩
          omega
        cases hb : p.testBit 0 with
        | true => exact ⟨0, by omega, key 0 (by unfold holdsP; rw [show (0 : Nat) / 2 = 0 from rfl, hb]; rfl)⟩
        | false => exact ⟨1, by omega, key 1 (by unfold holdsP; rw [show (1 : Nat) / 2 = 0 from rfl, hb]; rfl)⟩
      obtain ⟨x', e1, e2⟩ := mt_loop hR l2 hne 30 0 0 0 x2 g1 (by omega) (by omega) (Or.inl ⟨rfl, rfl, fun c hc => absurd hc (Nat.not_lt_zero c)⟩)
      exact Or.inr ⟨_, x', _, e1, rfl, y00, rfl, IVi e2⟩
