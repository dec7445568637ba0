/-! A name in a test; the code as it grows -/
theorem tok_end {x z : XS} {N : Nat} (h : TokR x z N) {p : Nat} (hp : p < N) (h1 : x.1 5 p ≠ 260) (h2 : x.1 5 p ≠ 261) : p + 1 < N := (h.2.2.2.2.1 p hp).mpr ⟨h1, h2⟩
theorem curK_ok {x z : XS} {N p : Nat} (h : TokR x z N) (hp : p < N) (hx : x.1 34 4 = nI p) : curK x = x.1 5 p := by
  have hN := h.2.1
  unfold curK kindAtF
  rw [hx, h.2.2.1, if_neg (nI_nn (by omega)), if_neg (fun q => by have := (nI_leq (by omega) (by omega)).mp q; omega), if_neg (fun q => by have := (nI_leq (by omega) (by omega)).mp q; omega), nI_clamp (by omega)]
theorem curV_ok {x z : XS} {N p : Nat} (h : TokR x z N) (hp : p < N) (hx : x.1 34 4 = nI p) : valueAtF x (x.1 34 4) = x.2 7 p := by
  have hN := h.2.1
  unfold valueAtF
  rw [hx, h.2.2.1, if_neg (nI_nn (by omega)), if_neg (fun q => by have := (nI_leq (by omega) (by omega)).mp q; omega), if_neg (fun q => by have := (nI_leq (by omega) (by omega)).mp q; omega), nI_clamp (by omega)]
theorem is_ok {z : XS} {p : Nat} (hz : z.1 0 9 = nI p) (hp : p < 401) (v : Int32) : f_X10_is v z = some (decide (z.1 2 p = v), z) := by
  unfold f_X10_is
  rw [hz, inB_nI hp (by decide), og_tr, nI_clamp (by omega)]
  by_cases h : z.1 2 p = v
  · rw [if_pos h, decide_eq_true h]
  · rw [if_neg h, decide_eq_false h]
theorem is_t {z : XS} {p : Nat} (hz : z.1 0 9 = nI p) (hp : p < 401) {v : Int32} (h : z.1 2 p = v) : f_X10_is v z = some (true, z) := by rw [is_ok hz hp, decide_eq_true h]
theorem is_f {z : XS} {p : Nat} (hz : z.1 0 9 = nI p) (hp : p < 401) {v : Int32} (h : z.1 2 p ≠ v) : f_X10_is v z = some (false, z) := by rw [is_ok hz hp, decide_eq_false h]
theorem sg_is (v : Int32) (z : XS) : f_X10_isSign v z = f_X10_is (50 + v) z := rfl
theorem eat_t {z : XS} {p : Nat} (hz : z.1 0 9 = nI p) (hp : p < 401) {v : Int32} (h : z.1 2 p = v) : f_X10_eat v z = some (true, setI z 0 9 (nI (p + 1))) := by
  unfold f_X10_eat
  rw [is_t hz hp h, ob_some1, if_neg (b2i_n rfl), hz, show nI p + 1 = nI (p + 1) from nI_addN p 1]
theorem eat_f {z : XS} {p : Nat} (hz : z.1 0 9 = nI p) (hp : p < 401) {v : Int32} (h : z.1 2 p ≠ v) : f_X10_eat v z = some (false, z) := by
  unfold f_X10_eat
  rw [is_f hz hp h, ob_some1, if_pos (b2i_f rfl)]
theorem eatSign_eq (v : Int32) (z : XS) : f_X10_eatSign v z = f_X10_eat (50 + v) z := by
  unfold f_X10_eatSign
  cases h : f_X10_eat (50 + v) z with
  | none => rfl
  | some u => rfl
theorem take_t {x : XS} {v : Int32} (h : curK x = v) : takeU x v = (true, adv x) := by unfold takeU nextB; rw [if_pos (decide_eq_true h)]
theorem take_f {x : XS} {v : Int32} (h : curK x ≠ v) : takeU x v = (false, x) := by unfold takeU nextB; rw [if_neg (fun q => h (of_decide_eq_true q))]
/-- a note and a token further -/
theorem note_adv (x : XS) {p : Nat} (hx : x.1 34 4 = nI p) (b : Prop) [Decidable b] (ev : Int32) :
    (∀ q k, q ≠ 34 → (adv (if b then noteF x ev else x)).1 q k = x.1 q k) ∧ (adv (if b then noteF x ev else x)).2 = x.2 ∧ (adv (if b then noteF x ev else x)).1 34 4 = nI (p + 1) ∧
    (x.1 34 5 ≠ 0 ∨ ¬ b → (adv (if b then noteF x ev else x)).1 34 5 = x.1 34 5 ∧ (adv (if b then noteF x ev else x)).1 34 6 = x.1 34 6) ∧
    (x.1 34 5 = 0 → b → (adv (if b then noteF x ev else x)).1 34 5 = ev ∧ (adv (if b then noteF x ev else x)).1 34 6 = nI p) := by
  have main : ∀ y : XS, y.1 34 4 = nI p → (∀ q k, q ≠ 34 → y.1 q k = x.1 q k) → y.2 = x.2 → (∀ q k, q ≠ 34 → (adv y).1 q k = x.1 q k) ∧ (adv y).2 = x.2 ∧ (adv y).1 34 4 = nI (p + 1) ∧ (adv y).1 34 5 = y.1 34 5 ∧ (adv y).1 34 6 = y.1 34 6 := by
    intro y h1 h2 h3
    rw [adv_x h1]
    exact ⟨fun q k hq => (rdI_ne hq).trans (h2 q k hq), h3, rdI_eq, rdI_nk (by decide), rdI_nk (by decide)⟩
  by_cases hb : b
  · rw [if_pos hb]
    unfold noteF
    by_cases h5 : x.1 34 5 = 0
    · rw [if_pos h5]
      obtain ⟨a1, a2, a3, a4, a5⟩ := main (setI (setI x 34 5 ev) 34 6 (x.1 34 4)) (by rw [rdI_nk (by decide), rdI_nk (by decide)]; exact hx) (fun q k hq => by rw [rdI_ne hq, rdI_ne hq]) rfl
      refine ⟨a1, a2, a3, fun h => ?_, fun _ _ => ⟨?_, ?_⟩⟩
      · rcases h with h | h
        · exact absurd h5 h
        · exact absurd hb h
      · rw [a4, rdI_nk (by decide), rdI_eq]
      · rw [a5, rdI_eq, hx]
    · rw [if_neg h5]
      obtain ⟨a1, a2, a3, a4, a5⟩ := main x hx (fun _ _ _ => rfl) rfl
      exact ⟨a1, a2, a3, fun _ => ⟨a4, a5⟩, fun h => absurd h h5⟩
  · rw [if_neg hb]
    obtain ⟨a1, a2, a3, a4, a5⟩ := main x hx (fun _ _ _ => rfl) rfl
    exact ⟨a1, a2, a3, fun _ => ⟨a4, a5⟩, fun _ h => absurd h hb⟩
def nmS (z : XS) (p e o : Nat) (r : Int32) : XS := setI (putS (setI (setI z 30 o (nI e)) 21 14 (nI (o + 1))) e (nI p)) 5 p r
theorem eatAs_eq {z : XS} {p : Nat} (hz : z.1 0 9 = nI p) (hp : p < 401) (v r : Int32) : f_X10_eatAs v r z = f_X10_eat v (setI z 5 p r) := by
  unfold f_X10_eatAs
  rw [hz, inB_nI hp (by decide), og_tr, nI_clamp (by omega)]
  cases f_X10_eat v (setI z 5 p r) with
  | none => rfl
  | some u => rfl
theorem nmS_n {z : XS} {p e o : Nat} {r : Int32} {q k : Nat} (h1 : ¬ (q = 5 ∧ k = p)) (h2 : ¬ (q = 29 ∧ k = e)) (h3 : ¬ (q = 30 ∧ k = o)) (h4 : ¬ (q = 21 ∧ (k = 12 ∨ k = 14))) : (nmS z p e o r).1 q k = z.1 q k := by
  unfold nmS putS
  rw [rdI, if_neg h1, rdI, if_neg (fun h => h4 ⟨h.1, Or.inl h.2⟩), rdI, if_neg h2, rdI, if_neg (fun h => h4 ⟨h.1, Or.inr h.2⟩), rdI, if_neg h3]
theorem name_eq {z : XS} {p e o : Nat} (hz : z.1 0 9 = nI p) (hp : p < 401) (he : z.1 21 12 = nI e) (ho : z.1 21 14 = nI o) (h1 : e < 800) (h2 : o < 400) (r : Int32) : f_X10_isName r z = f_X10_eat 40 (nmS z p e o r) := by
  have e1 : setI (setI z 30 o (nI e)) 21 14 ((setI z 30 o (nI e)).1 21 14 + 1) = setI (setI z 30 o (nI e)) 21 14 (nI (o + 1)) := by
    rw [rdI_ne (by decide), ho]; exact congrArg (setI (setI z 30 o (nI e)) 21 14) (nI_addN o 1)
  have e2 : (setI (setI z 30 o (nI e)) 21 14 (nI (o + 1))).1 21 12 = nI e := by rw [rdI_nk (by decide), rdI_ne (by decide)]; exact he
  have e3 : (setI (setI z 30 o (nI e)) 21 14 (nI (o + 1))).1 0 9 = nI p := by rw [rdI_ne (by decide), rdI_ne (by decide)]; exact hz
  unfold f_X10_isName
  rw [ho, inB_nI h2 (by decide), og_tr, nI_clamp (by omega), he, e1, e3, put_ok e2 h1, ob_some1, eatAs_eq (p := p) (by unfold putS; rw [rdI_ne (by decide), rdI_ne (by decide)]; exact e3) hp]
  unfold nmS
  cases f_X10_eat 40 (setI (putS (setI (setI z 30 o (nI e)) 21 14 (nI (o + 1))) e (nI p)) 5 p r) with
  | none => rfl
  | some u => rfl
theorem known_eq {x : XS} (q n : Nat) (c : Int32) (h : curK x = 258) : knownU x q n c = (maxI (findF x q n c (valueAtF x (x.1 34 4))) 0, adv (if findF x q n c (valueAtF x (x.1 34 4)) < 0 then noteF x 3 else x)) := by
  unfold knownU nextB; rw [if_pos (decide_eq_true h)]
theorem known_f {x : XS} (q n : Nat) (c : Int32) (h : curK x ≠ 258) : knownU x q n c = (-1, x) := by
  unfold knownU nextB; rw [if_neg (fun q => h (of_decide_eq_true q))]
theorem maxI_n {k : Nat} (h : k < 2 ^ 31) : maxI (nI k) 0 = nI k := by unfold maxI; rw [if_neg (nI_nn h)]
theorem st_name {N F S : Nat} {x z : XS} {cf : Nat → Int32} {p c e o d : Nat} (h : St N F S x z cf p c e o d) (hk : x.1 5 p = 258) (hl : e < 800) (hol : o < 400) {r r1 : Int32} {q n : Nat} {cx : Int32} {L : Nat} (hr : r = 7 ∨ r = 8)
    (hfi : x.1 34 5 = 0 → findF x q n cx (x.2 7 p) = tl (z.1 5) (x.2 7) r1 (x.2 7 p) p ∧ cn (z.1 5) r1 p = L)
    (her : ∀ σ, σ p = r → er σ (x.2 7) p = if tl σ (x.2 7) r1 (x.2 7 p) p = -1 then 3 else 0)
    (hmn : ∀ σ, σ p = r → mnr σ (x.2 7) p = tl σ (x.2 7) r1 (x.2 7 p) p) :
    f_X10_isName r z = some (true, setI (nmS z p e o r) 0 9 (nI (p + 1))) ∧ (knownU x q n cx).1 = maxI (findF x q n cx (x.2 7 p)) 0 ∧
    Go N F S x z cf p c e o (knownU x q n cx).2 (setI (nmS z p e o r) 0 9 (nI (p + 1))) (updF cf e (tl (z.1 5) (x.2 7) r1 (x.2 7 p) p)) (p + 1) c (e + 1) (o + 1) d ∧
    ((knownU x q n cx).2.1 34 5 = 0 → ∃ k, k < L ∧ findF x q n cx (x.2 7 p) = nI k ∧ tl (z.1 5) (x.2 7) r1 (x.2 7 p) p = nI k) := by
  obtain ⟨hT, hpN, hx, hz, hrr, hc, he, ho, hd, hcf, hro, hm⟩ := h
  have hN := hT.2.1
  have hck : curK x = 258 := (curK_ok hT hpN hx).trans hk
  have hp1 : p + 1 < N := tok_end hT hpN (by rw [hk]; decide) (by rw [hk]; decide)
  have hkz : z.1 2 p = 40 := (km_iff (hT.2.2.2.1 p hpN).1 (show ((258 : Int32), (40 : Int32)) ∈ KM by decide)).mp hk
  have hzn : (nmS z p e o r).1 0 9 = nI p := (nmS_n (by omega) (by omega) (by omega) (by omega)).trans hz
  rw [known_eq q n cx hck, curV_ok hT hpN hx, name_eq hz (by omega) he ho hl hol, eat_t hzn (by omega) ((nmS_n (by omega) (by omega) (by omega) (by omega)).trans hkz)]
  generalize hmf : findF x q n cx (x.2 7 p) = m at *
  generalize htl : tl (z.1 5) (x.2 7) r1 (x.2 7 p) p = m' at *
  obtain ⟨y1, y2, y3, y4, y5⟩ := note_adv x hx (m < 0) 3
  generalize hy : adv (if m < 0 then noteF x 3 else x) = y at *
  have hW : ∀ q k, ¬ (q = 5 ∧ k = p) → ¬ (q = 29 ∧ k = e) → ¬ (q = 30 ∧ k = o) → ¬ (q = 21 ∧ (k = 12 ∨ k = 14)) → ¬ (q = 0 ∧ k = 9) → (setI (nmS z p e o r) 0 9 (nI (p + 1))).1 q k = z.1 q k := fun q k a b c d f => by
    rw [rdI, if_neg f, nmS_n a b c d]
  generalize hw : setI (nmS z p e o r) 0 9 (nI (p + 1)) = w at *
  have w9 : w.1 0 9 = nI (p + 1) := by rw [← hw]; exact rdI_eq
  have w5 : w.1 5 p = r := by rw [← hw, rdI_ne (by decide)]; exact rdI_eq
  have w29 : w.1 29 e = nI p := by rw [← hw, rdI_ne (by decide)]; unfold nmS putS; rw [rdI_ne (by decide), rdI_ne (by decide), rdI_eq]
  have w30 : w.1 30 o = nI e := by rw [← hw, rdI_ne (by decide)]; unfold nmS putS; rw [rdI_ne (by decide), rdI_ne (by decide), rdI_ne (by decide), rdI_ne (by decide), rdI_eq]
  have w12 : w.1 21 12 = nI (e + 1) := by rw [← hw, rdI_ne (by decide)]; unfold nmS putS; rw [rdI_ne (by decide), rdI_eq]
  have w14 : w.1 21 14 = nI (o + 1) := by rw [← hw, rdI_ne (by decide)]; unfold nmS putS; rw [rdI_ne (by decide), rdI_nk (by decide), rdI_ne (by decide), rdI_eq]
  clear hw hy hzn
  have h5 : ∀ j, j < p → w.1 5 j = z.1 5 j := fun j hj => hW 5 j (by omega) (by omega) (by omega) (by omega) (by omega)
  have htl' : tl (w.1 5) (x.2 7) r1 (x.2 7 p) p = m' := by rw [tl_cong (fun j hj => h5 j hj) (fun _ => rfl)]; exact htl
  have hST : STok z w := fun q k a b => hW q k (by omega) (by omega) (by omega) (by omega) (by omega)
  have hne : ∀ i, i < e → updF cf e m' i = cf i := fun i hi => if_neg (by omega)
  have h78 : ∀ j, p ≤ j → j < p + 1 → w.1 5 j = 7 ∨ w.1 5 j = 8 := fun j a b => by rw [show j = p by omega, w5]; exact hr
  have hxe : y.1 5 = x.1 5 := funext fun k => y1 5 k (by decide)
  have hm' : m' = -1 ∨ ∃ k, k < cn (z.1 5) r1 p ∧ m' = nI k := by rw [← htl]; exact tl_val (by omega)
  have hcl := cn_le (z.1 5) r1 p
  refine ⟨rfl, rfl, ⟨by omega, Nat.le_refl _, by omega, by omega, ⟨?_, hp1, y3, w9, ?_, ?_, w12, w14, ?_, ?_, ?_, ?_⟩, ?_⟩, ?_⟩
  · exact TokR_of (fun q k hq => y1 q k (by omega)) (fun k => by rw [y2]) hST hT
  · intro t a b
    rw [hW 5 t (by omega) (by omega) (by omega) (by omega) (by omega)]; exact hrr t (by omega) b
  · rw [y1 8 12 (by decide)]; exact hc
  · rw [hW 0 10 (by omega) (by omega) (by omega) (by omega) (by omega)]; exact hd
  · obtain ⟨a, b, g⟩ := hcf
    rw [y2]
    refine ⟨fun i hi k => ?_, fun j hj => ?_, fun j k a a2 => ?_⟩
    · have hie : i ≠ e := fun hie => k o (by omega) (by rw [w30, hie])
      rw [hne i (by omega), hW 29 i (by omega) (by omega) (by omega) (by omega) (by omega)]
      exact a i (by omega) (fun j hj => by rw [← hW 30 j (by omega) (by omega) (by omega) (by omega) (by omega)]; exact k j (by omega))
    · rcases Nat.lt_or_ge j o with q | q
      · obtain ⟨i, tk, b1, b2, b3, b4, b5, b6⟩ := b j q
        exact ⟨i, tk, by omega, by omega, by rw [hW 30 j (by omega) (by omega) (by omega) (by omega) (by omega)]; exact b3, by rw [hW 29 i (by omega) (by omega) (by omega) (by omega) (by omega)]; exact b4, by rw [hne i b1, mn_cong (fun k hk => h5 k (by omega)) (fun _ => rfl)]; exact b5, by rw [h5 _ b2]; exact b6⟩
      · have hjo : j = o := by omega
        subst hjo
        exact ⟨e, p, by omega, by omega, w30, w29, by rw [hmn _ w5, htl']; exact if_pos rfl, by rw [w5]; exact hr⟩
    · rw [hW 30 j (by omega) (by omega) (by omega) (by omega) (by omega)]
      rcases Nat.lt_or_ge k o with q | q
      · rw [hW 30 k (by omega) (by omega) (by omega) (by omega) (by omega)]; exact g j k a q
      · rw [show k = o by omega, w30]
        obtain ⟨i, tk, b1, b2, b3, -⟩ := b j (by omega)
        rw [b3]
        exact fun h => by have := (nI_inj (by omega) (by omega)).mp h; omega
  · rw [hxe]
    refine RoK_of h5 (fun j a b => Or.inr (Or.inr ⟨h78 j a b, ?_⟩)) hro
    rw [show j = p by omega]; exact hk
  · rw [y2]
    rcases hm with ⟨m1, m2, m3, m4⟩ | hm
    · obtain ⟨f1, f2⟩ := hfi m1
      by_cases hm0 : m < 0
      · obtain ⟨e5, e6⟩ := y5 m1 hm0
        refine Or.inr ⟨p, by omega, e6, by rw [e5]; decide, fun j hj => ?_, ?_⟩
        · rw [er_cong (fun i hi => h5 i (by omega)) (fun _ => rfl)]; exact m2 j hj
        · rw [her _ w5, htl', e5, ← f1, if_pos]
          rcases hm' with h | ⟨k, a, b⟩
          · rw [f1]; exact h
          · rw [f1, b] at hm0; exact absurd hm0 (nI_nn (by omega))
      · obtain ⟨e5, e6⟩ := y4 (Or.inr hm0)
        refine Or.inl ⟨e5.trans m1, fun j hj => ?_, FamL_of (by omega) (y1 _ _ (by decide)) (fun k => by rw [y2]) h5 (fun j a b => by rcases h78 j a b with h | h <;> rw [h] <;> decide) m3, StmL_of (by omega) (y1 _ _ (by decide)) (fun k => by rw [y2]) h5 (fun j a b => by rcases h78 j a b with h | h <;> rw [h] <;> decide) m4⟩
        rcases Nat.lt_or_ge j p with q | q
        · rw [er_cong (fun i hi => h5 i (by omega)) (fun _ => rfl)]; exact m2 j q
        · rw [show j = p by omega, her _ w5, htl', if_neg]
          intro h
          rw [f1, h] at hm0
          exact hm0 (by decide)
    · obtain ⟨e5, e6⟩ := y4 (Or.inl (by obtain ⟨t, -, -, c, -⟩ := hm; exact c))
      exact Or.inr (EA_of (by omega) e5 e6 h5 hm)
  · refine ⟨fun q k a _ _ => y1 q k a, y2, fun q k a b _ => y1 q k (by omega), fun q k a b c d f => hW q k (by omega) (by omega) (by omega) f (by omega), h5, fun j a b => Or.inr (h78 j a b), hne, fun a => ?_⟩
    rcases hm with ⟨m1, -⟩ | hm
    · exact m1
    · obtain ⟨t, -, -, c, -⟩ := hm
      rw [(y4 (Or.inl c)).1] at a; exact a
  · intro a
    rcases hm with ⟨m1, m2, m3, m4⟩ | hm
    · obtain ⟨f1, f2⟩ := hfi m1
      rcases hm' with h | ⟨k, a1, b1⟩
      · have : m < 0 := by rw [f1, h]; decide
        rw [(y5 m1 this).1] at a
        exact absurd a (by decide)
      · exact ⟨k, by omega, by rw [f1]; exact b1, b1⟩
    · obtain ⟨t, -, -, c, -⟩ := hm
      rw [(y4 (Or.inl c)).1] at a; exact absurd a c
