/-! The class's answers: who is to blame, the fewest, the mean, statements broken and renewed -/
section CL2
variable {b : Bok} {m dy ca : Nat} {x : XS}
/-- what the class says of the fewest to break -/
def fwV (b : Bok) (m : Nat) : Int32 := if mn (nh (bl b) (br b) (nI m) (bS b)) (2 ^ bF b) ≤ 2 then nI (mn (nh (bl b) (br b) (nI m) (bS b)) (2 ^ bF b)) else -1
theorem q_fewest (h : Cls b m dy ca x) : AnsI b m dy ca (f_X8_fewestToBreak x) (fwV b m) := ⟨x, by unfold f_X8_fewestToBreak; rw [h.s1, few_ok h.1.1.1 h.1.1.2]; rfl, h⟩
theorem EB_lt (hW : BW b) {a c : Nat} (e : EB b m a c = true) : a < 2 * bF b ∧ c < 2 * bF b := st_lt (by have := hW.1; omega) hW.lr (bS b) (Nat.le_refl _) e
theorem q_between (h : Cls b m dy ca x) {c d : Nat} (hc : c < 2 * bF b) (hd : d < 2 * bF b) (hr : RB b m d c = true) : ∃ i, i < 2 * bF b ∧ lv (EB b m) d i c = true ∧ (∀ e, e < i → lv (EB b m) d e c = false) ∧ Ans b m dy ca (f_X8_fewestStatementsBetween (nI c) (nI d) x) (.int (nI i)) := by
  have hF := h.bw.1
  obtain ⟨w1, w2⟩ := h.webx
  have hs := lv_short (by omega) h.bw.lr hd hc hr
  unfold f_X8_fewestStatementsBetween
  rw [h.needC hc, ob_some1, rbo_inr1, h.needC hd, ob_some1, rbo_inr1]
  unfold distF
  rcases dist_eq (n := 2 * bF b) (by omega) w2.1 w2.2.1 (fun a c e => EB_lt h.bw e) (d := d) (c := c) (by omega) 21 0 (withI 0 (nI d)) (fun a ha => by
    rw [bit_with (by omega) ha, bit_zero]; exact Bool.false_or _) with ⟨i, -, i2, i3, i4, i5⟩ | ⟨i1, i2⟩
  · refine ⟨i, ?_, i3, fun e he => i4 e (Nat.zero_le e) he, ?_⟩
    · apply Classical.byContradiction
      intro hn
      have := i4 (2 * bF b - 1) (Nat.zero_le _) (by omega)
      rw [hs] at this
      cases this
    · rw [i5, if_pos (show (0 : Int32) ≤ nI i from (nI_leq (a := 0) (by decide) (by omega)).mpr (Nat.zero_le i))]
      exact ⟨_, rfl, w1⟩
  · have := i1 (2 * bF b - 1) (Nat.zero_le _) (by omega)
    rw [hs] at this
    cases this
def mutB (b : Bok) (m f : Nat) : Bool := RB b m (2 * f) (2 * f + 1) && RB b m (2 * f + 1) (2 * f)
theorem bl_loop2 {f0 : Nat} (hf : f0 < bF b) (h1 : mutB b m f0 = true) (h2 : ∀ f, f < f0 → mutB b m f = false) : ∀ (n f : Nat) (x : XS), Cls b m dy ca x → f ≤ f0 → f0 < f + n → Ans b m dy ca (f_X8_blamedFamily_L29 n (nI f) x) (.int (nI f0))
  | 0, f, _, _, _, _ => by omega
  | n + 1, f, x, hB, q1, q2 => by
    have hF := hB.bw.1
    obtain ⟨w1, w2⟩ := hB.webx
    rw [f_X8_blamedFamily_L29, hB.xF, if_neg (fun h => by have := (nI_leq (by omega) (by omega)).mp h; omega), two_nI, show nI (2 * f) + 1 = nI (2 * f + 1) from nI_addN _ 1, hasB_bit (show 2 * f + 1 < 32 by omega), together_bit (n := 2 * bF b) (by omega) w2.2.2.1 w2.1 (show 2 * f < 2 * bF b by omega) _ (by omega), decide_eq_true (show 2 * f + 1 < 2 * bF b by omega), Bool.true_and, Bool.and_comm]
    by_cases e : f = f0
    · rw [e]
      have h1' : (RB b m (2 * f0) (2 * f0 + 1) && RB b m (2 * f0 + 1) (2 * f0)) = true := h1
      rw [h1', if_neg (show ¬ b2i true = 0 by decide)]
      exact ⟨_, rfl, w1⟩
    · have h2' : (RB b m (2 * f) (2 * f + 1) && RB b m (2 * f + 1) (2 * f)) = false := h2 f (by omega)
      rw [h2', if_pos (show b2i false = 0 from rfl), show nI f + 1 = nI (f + 1) from nI_addN f 1]
      exact bl_loop2 hf h1 h2 n (f + 1) _ w1 (by omega) (by omega)
theorem blame_ex (hW : BW b) (hp : nP b m = 0) : ∃ f0, f0 < bF b ∧ mutB b m f0 = true ∧ ∀ f, f < f0 → mutB b m f = false := by
  have hF := hW.1
  have hz := fb_ct_zero.mp hp
  have hex : ∃ f, f < bF b ∧ mutB b m f = true := by
    apply Classical.byContradiction
    intro hn
    obtain ⟨p, p1, p2⟩ := sat (s := nI m) (by omega) hW.lr (fun f hf ⟨a, b9⟩ => hn ⟨f, hf, by show (RB b m (2 * f) (2 * f + 1) && RB b m (2 * f + 1) (2 * f)) = true; rw [show RB b m (2 * f) (2 * f + 1) = true from a, show RB b m (2 * f + 1) (2 * f) = true from b9]; rfl⟩)
    have := hz p p1
    rw [show Pm b m p = true from p2] at this; cases this
  obtain ⟨f1, hf1, hf2⟩ := hex
  obtain ⟨f0, k1, k2, k3⟩ := least (p := mutB b m) hf2
  exact ⟨f0, by omega, k2, k3⟩
theorem q_blamed (h : Cls b m dy ca x) (hp : nP b m = 0) {f0 : Nat} (hf : f0 < bF b) (h1 : mutB b m f0 = true) (h2 : ∀ f, f < f0 → mutB b m f = false) : Ans b m dy ca (f_X8_blamedFamily x) (.int (nI f0)) := by
  have hF := h.bw.1
  unfold f_X8_blamedFamily
  rw [h.cnt, hp, if_pos (by decide)]
  exact bl_loop2 hf h1 h2 30 0 _ h.landx (Nat.zero_le _) (by omega)
def mnV (b : Bok) (m : Nat) : UInt64 := if nP b m = 0 then 0 else FP.ddiv (FP.i2d (nI (fb_sm (fun f => nW b m (2 * f)) (bF b)))) (FP.i2d (nI (nP b m)))
theorem mean_loop2 {c : Int32} (hc : c ≠ 0) : ∀ (n j : Nat) (x : XS), Cls b m dy ca x → bF b - j < n → j ≤ bF b →
    ∃ x', f_X8_meanRiders_L25 n c (nI (fb_sm (fun f => nW b m (2 * f)) j)) (nI j) x = some (FP.ddiv (FP.i2d (nI (fb_sm (fun f => nW b m (2 * f)) (bF b)))) (FP.i2d c), x') ∧ Cls b m dy ca x'
  | 0, _, _, _, h, _ => absurd h (Nat.not_lt_zero _)
  | n + 1, j, x, hB, hn, hj => by
    have hF := hB.bw.1
    rw [f_X8_meanRiders_L25, hB.xF]
    by_cases hd : bF b ≤ j
    · have e : j = bF b := by omega
      subst e
      rw [if_pos ((nI_leq (by omega) (by omega)).mpr (Nat.le_refl _)), cdec_t (mean_n hc), og_tr]
      exact ⟨x, rfl, hB⟩
    · rw [if_neg (fun h => hd ((nI_leq (by omega) (by omega)).mp h)), two_nI, hB.cntw (by omega), nI_addN, show nI j + 1 = nI (j + 1) from nI_addN j 1]
      exact mean_loop2 hc n (j + 1) _ hB.landx (by omega) (by omega)
theorem q_mean (h : Cls b m dy ca x) : ∃ x', f_X8_meanRiders x = some (mnV b m, x') ∧ Cls b m dy ca x' := by
  have hF := h.bw.1
  have hle := nP_le h.bw m
  unfold f_X8_meanRiders mnV
  rw [h.cnt]
  by_cases hc : nP b m = 0
  · rw [if_pos hc, if_pos (by rw [hc]; rfl)]
    exact ⟨_, rfl, h.landx⟩
  · rw [if_neg hc, if_neg (fun z => hc ((nz_eq (by omega)).mp z))]
    exact mean_loop2 (fun z => hc ((nz_eq (by omega)).mp z)) 30 0 _ h.landx (by omega) (Nat.zero_le _)
theorem Cls.setm {m' : Nat} (h : Cls b m dy ca x) (hm : m' < 2 ^ bS b) : Cls b m' dy ca (setI x 46 1 (nI m')) := by
  have e1 : ∀ q k, q ≠ 46 ∨ k ≠ 1 → (setI x 46 1 (nI m')).1 q k = x.1 q k := fun q k h => by
    rcases h with h | h
    · exact rdI_ne h
    · exact rdI_nk h
  refine ⟨h.1.mv (fun q hq k => e1 q k (by omega)) (e1 _ _ (by omega)) (fun k => rfl) ?_ ?_, hm, rdI_eq, ?_, ?_⟩
  · rw [e1 _ _ (by omega)]; exact h.1.2.1.imp id (WebC_of (fun q k hq => e1 q k (by omega)))
  · rw [e1 _ _ (by omega)]; exact h.1.2.2.1.imp id (LandC_of (e1 _ _ (by omega)) (fun k => rfl))
  · rw [e1 _ _ (by omega)]; exact h.2.2.2.1
  · rw [e1 _ _ (by omega)]; exact h.2.2.2.2
theorem Cls.m20 (h : Cls b m dy ca x) : m < 2 ^ 20 := Nat.lt_of_lt_of_le h.m12 (by decide)
theorem Cls.bt (h : Cls b m dy ca x) (k : Nat) : bit (nI m) k = m.testBit k := bit_nI h.m32 k
theorem q_isNeedless (h : Cls b m dy ca x) {k : Nat} (hk : k < bS b) (hb : m.testBit k = true) : Ans b m dy ca (f_X8_isNeedless (nI k) x) (.int (b2i (decide (nP b (m ^^^ 2 ^ k) = nP b m)))) := by
  have hS := h.bw.2.1
  have h1 := nP_le h.bw m
  have h2 := nP_le h.bw (m ^^^ 2 ^ k)
  have hl := h.landx
  have hw : withoutI (nI m) (nI k) = nI (m ^^^ 2 ^ k) := without_nI h.m20 (by omega) (by rw [h.bt]; exact hb)
  have hm' : m ^^^ 2 ^ k < 2 ^ bS b := xor_lt h.2.1 hk
  have hne : nI (m ^^^ 2 ^ k) ≠ -1 := nI_ne1 (Nat.lt_of_lt_of_le hm' (Nat.pow_le_pow_right (by decide) (by omega)))
  unfold f_X8_isNeedless f_X8_needStanding
  rw [h.needS hk, ob_some1, rbo_inr1, h.has (by omega), hb, if_neg (show ¬ b2i true = 0 by decide), ob_some1, rbo_inr1, hl.s1, hw, h.cnt]
  have c2 : countF (landLook (x.1 46 1) x) (nI (m ^^^ 2 ^ k)) = nI (nP b (m ^^^ 2 ^ k)) := count_eq hl.1.1.1 hl.1.1.2 hl.1.2.2.1 hne
  rw [c2]
  have hl2 : Cls b m dy ca (landLook (nI (m ^^^ 2 ^ k)) (landLook (x.1 46 1) x)) := by
    refine ⟨(hl.1.land1 hne).1, hl.2.1, ?_, ?_, ?_⟩ <;> rw [land_1 (by decide)]
    · exact hl.2.2.1
    · exact hl.2.2.2.1
    · exact hl.2.2.2.2
  by_cases he : nP b (m ^^^ 2 ^ k) = nP b m
  · rw [if_pos (by rw [he]), decide_eq_true he]
    exact ⟨_, rfl, hl2⟩
  · rw [if_neg (fun z => he ((nI_eq (by omega) (by omega)).mp z)), decide_eq_false he]
    exact ⟨_, rfl, hl2⟩
theorem q_break (h : Cls b m dy ca x) {k : Nat} (hk : k < bS b) (hb : m.testBit k = true) : Ans b (m ^^^ 2 ^ k) dy ca (f_X8_breakStatement (nI k) x) (.int (nI (nS b (m ^^^ 2 ^ k)))) := by
  have hS := h.bw.2.1
  have hw : withoutI (nI m) (nI k) = nI (m ^^^ 2 ^ k) := without_nI h.m20 (by omega) (by rw [h.bt]; exact hb)
  have hm' : m ^^^ 2 ^ k < 2 ^ bS b := xor_lt h.2.1 hk
  unfold f_X8_breakStatement f_X8_needStanding
  rw [h.needS hk, ob_some1, rbo_inr1, h.has (by omega), hb, if_neg (show ¬ b2i true = 0 by decide), ob_some1, rbo_inr1, rdI_eq, h.s1, hw, bc_nS h.bw hm']
  exact ⟨_, rfl, h.setm hm'⟩
theorem q_breakX (h : Cls b m dy ca x) {k : Nat} (hk : k < bS b) (hb : m.testBit k = false) : f_X8_breakStatement (nI k) x = some (.inl ("java/lang/IllegalStateException", x)) := by
  have hS := h.bw.2.1
  unfold f_X8_breakStatement f_X8_needStanding
  rw [h.needS hk, ob_some1, rbo_inr1, h.has (by omega), hb, if_pos (show b2i false = 0 by decide), ob_some1, rbo_inl1]
theorem q_renew (h : Cls b m dy ca x) {k : Nat} (hk : k < bS b) (hb : m.testBit k = false) : Ans b (m ^^^ 2 ^ k) dy ca (f_X8_renewStatement (nI k) x) (.int (nI (nS b (m ^^^ 2 ^ k)))) := by
  have hS := h.bw.2.1
  have hw : withI (nI m) (nI k) = nI (m ^^^ 2 ^ k) := with_nI h.m20 (by omega) (by rw [h.bt]; exact hb)
  have hm' : m ^^^ 2 ^ k < 2 ^ bS b := xor_lt h.2.1 hk
  unfold f_X8_renewStatement
  rw [h.needS hk, ob_some1, rbo_inr1, h.has (by omega), hb, if_pos (show b2i false = 0 by decide), rdI_eq, h.s1, hw, bc_nS h.bw hm']
  exact ⟨_, rfl, h.setm hm'⟩
theorem q_renewX (h : Cls b m dy ca x) {k : Nat} (hk : k < bS b) (hb : m.testBit k = true) : f_X8_renewStatement (nI k) x = some (.inl ("java/lang/IllegalStateException", x)) := by
  have hS := h.bw.2.1
  unfold f_X8_renewStatement
  rw [h.needS hk, ob_some1, rbo_inr1, h.has (by omega), hb, if_neg (show ¬ b2i true = 0 by decide)]
/-- the best so far among the first j claims: l1 the claim, l2 its peaces, 0 none -/
def TelI (b : Bok) (m j l1 l2 : Nat) : Prop := (l2 = 0 ∧ l1 = 0 ∧ ∀ c, c < j → nW b m c = 0) ∨ (0 < l2 ∧ l1 < j ∧ nW b m l1 = l2 ∧ (∀ c, c < j → nW b m c = 0 ∨ l2 ≤ nW b m c) ∧ ∀ c, c < l1 → nW b m c = 0 ∨ l2 < nW b m c)
def Tel (b : Bok) (m c0 : Nat) : Prop := c0 < 2 * bF b ∧ 0 < nW b m c0 ∧ (∀ c, c < 2 * bF b → nW b m c = 0 ∨ nW b m c0 ≤ nW b m c) ∧ ∀ c, c < c0 → nW b m c = 0 ∨ nW b m c0 < nW b m c
theorem tel_loop : ∀ (n j l1 l2 : Nat) (x : XS), Cls b m dy ca x → 2 * bF b - j < n → j ≤ 2 * bF b → TelI b m j l1 l2 → ∃ c0 l3, TelI b m (2 * bF b) c0 l3 ∧ Ans b m dy ca (f_X8_mostTellingOath_L30 n (nI l1) (nI l2) (nI j) x) (.int (nI c0))
  | 0, _, _, _, _, _, h, _, _ => absurd h (Nat.not_lt_zero _)
  | n + 1, j, l1, l2, x, hB, hn, hj, hT => by
    have hF := hB.bw.1
    rw [f_X8_mostTellingOath_L30, hB.xF, two_nI]
    by_cases hd : 2 * bF b ≤ j
    · have e : j = 2 * bF b := by omega
      subst e
      rw [if_pos ((nI_leq (by omega) (by omega)).mpr (Nat.le_refl _))]
      exact ⟨l1, l2, hT, _, rfl, hB⟩
    · have hw := nW_le hB.bw m j
      have hl2 : l2 ≤ 32 := by
        rcases hT with ⟨e, _⟩ | ⟨_, _, e, _⟩
        · omega
        · rw [← e]; exact nW_le hB.bw m l1
      rw [if_neg (fun h => hd ((nI_leq (by omega) (by omega)).mp h)), hB.cntw (by omega), show nI j + 1 = nI (j + 1) from nI_addN j 1]
      by_cases h0 : nW b m j = 0
      · rw [if_pos ((nz_le (by omega)).mpr h0)]
        refine tel_loop n (j + 1) l1 l2 _ hB.landx (by omega) (by omega) ?_
        rcases hT with ⟨e1, e2, e3⟩ | ⟨e1, e2, e3, e4, e5⟩
        · exact Or.inl ⟨e1, e2, fun c hc => by by_cases z : c = j; rw [z]; exact h0; exact e3 c (by omega)⟩
        · exact Or.inr ⟨e1, by omega, e3, fun c hc => by by_cases z : c = j; rw [z]; exact Or.inl h0; exact e4 c (by omega), e5⟩
      · rw [if_neg (fun z => h0 ((nz_le (by omega)).mp z))]
        by_cases hz : l2 = 0
        · rw [if_pos ((nz_eq (by omega)).mpr hz)]
          refine tel_loop n (j + 1) j (nW b m j) _ hB.landx (by omega) (by omega) ?_
          rcases hT with ⟨e1, e2, e3⟩ | ⟨e1, _⟩
          · exact Or.inr ⟨by omega, by omega, rfl, fun c hc => by by_cases z : c = j; rw [z]; exact Or.inr (Nat.le_refl _); exact Or.inl (e3 c (by omega)), fun c hc => Or.inl (e3 c hc)⟩
          · omega
        · rw [if_neg (fun z => hz ((nz_eq (by omega)).mp z))]
          rcases hT with ⟨e1, _⟩ | ⟨e1, e2, e3, e4, e5⟩
          · omega
          · by_cases hle : l2 ≤ nW b m j
            · rw [if_pos ((nI_leq (by omega) (by omega)).mpr hle)]
              refine tel_loop n (j + 1) l1 l2 _ hB.landx (by omega) (by omega) (Or.inr ⟨e1, by omega, e3, fun c hc => ?_, e5⟩)
              by_cases z : c = j
              · rw [z]; exact Or.inr hle
              · exact e4 c (by omega)
            · rw [if_neg (fun z => hle ((nI_leq (by omega) (by omega)).mp z))]
              refine tel_loop n (j + 1) j (nW b m j) _ hB.landx (by omega) (by omega) (Or.inr ⟨by omega, by omega, rfl, fun c hc => ?_, fun c hc => ?_⟩)
              · by_cases z : c = j
                · rw [z]; exact Or.inr (Nat.le_refl _)
                · rcases e4 c (by omega) with q | q
                  · exact Or.inl q
                  · exact Or.inr (by omega)
              · rcases e4 c hc with q | q
                · exact Or.inl q
                · exact Or.inr (by omega)
theorem q_telling (h : Cls b m dy ca x) (hp : nP b m ≠ 0) : ∃ c0, Tel b m c0 ∧ Ans b m dy ca (f_X8_mostTellingOath x) (.int (nI c0)) := by
  have hF := h.bw.1
  unfold f_X8_mostTellingOath
  rw [h.needP hp, ob_some1, rbo_inr1, h.landx.xF, if_neg (fun z => by have := (nz_eq (by omega)).mp z; omega)]
  obtain ⟨c0, l3, t1, t2⟩ := tel_loop (b := b) (m := m) (dy := dy) (ca := ca) 30 0 0 0 _ h.landx (by omega) (Nat.zero_le _) (Or.inl ⟨rfl, rfl, fun c hc => absurd hc (by omega)⟩)
  refine ⟨c0, ?_, t2⟩
  rcases t1 with ⟨_, _, e⟩ | ⟨e1, e2, e3, e4, e5⟩
  · exfalso
    obtain ⟨p, hp1, hp2⟩ := fb_ct_pos.mp (Nat.pos_of_ne_zero hp)
    have hz : ∀ c, c < 2 * bF b → holdsP p c = false := fun c hc => by
      have := fb_ct_zero.mp (e c hc) p hp1
      simp only [hp2, Bool.true_and] at this
      exact this
    have z0 := hz 0 (by omega)
    have z1 := hz 1 (by omega)
    have := holds_not 0 (by decide) p
    rw [show 0 ^^^ 1 = 1 from rfl, z1, z0] at this
    cases this
  · refine ⟨e2, by omega, fun c hc => ?_, fun c hc => ?_⟩
    · rw [e3]; exact e4 c hc
    · rw [e3]; exact e5 c hc
end CL2
