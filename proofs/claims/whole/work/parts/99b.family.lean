/-! What is told, in both; a family's line -/
def KD (a b : Int32) : Prop := (a = 0 ∧ b = 1) ∨ (a = 1 ∧ b = 4) ∨ (a = 2 ∧ b = 7) ∨ (a = 3 ∧ b = 9)
def Cst (x w : XS) (F S : Nat) : Prop := ∀ k, k < S → ∃ a b, a < 2 * F ∧ b < 2 * F ∧ x.1 10 k = nI a ∧ x.1 11 k = nI b ∧ w.1 23 k = nI a ∧ w.1 24 k = nI b ∧ KD (x.1 9 k) (w.1 22 k) ∧ x.1 12 k = lefI (x.1 9 k) (nI a) ∧ x.1 13 k = rigI (x.1 9 k) (nI b)
def Cor (x z w : XS) (cf : Nat → Int32) (F S O c e : Nat) : Prop := ∀ k, k < O → ∃ a n s f t, x.1 16 k = nI a ∧ x.1 17 k = nI (a + n) ∧ a + n ≤ c ∧ z.1 27 k = nI s ∧ z.1 28 k = nI f ∧ s ≤ f ∧ f ≤ e ∧ ((n = 0 ∧ s = f) ∨ (0 < n ∧ Pre x cf F S n a s [] f [true])) ∧ t < S ∧ x.1 15 k = nI t ∧ w.1 26 k = nI t ∧ (x.1 14 k = 1 ↔ ¬ w.1 25 k = 12)
def LQ (x z : XS) (cf : Nat → Int32) (p c e F S O : Nat) : Prop :=
  FamL x (z.1 5) (x.2 7) p F ∧ StmL x (z.1 5) (x.2 7) p S ∧ (cn (z.1 5) 5 p = O ∧ O ≤ 16 ∧ x.1 8 7 = nI O) ∧ Cst x (p2 (z.1 5) (z.1 2) (x.2 7) p) F S ∧ Cor x z (p2 (z.1 5) (z.1 2) (x.2 7) p) cf F S O c e
def LSt (N : Nat) (x z : XS) (cf : Nat → Int32) (p c e o : Nat) : Prop :=
  Sb N x z cf p c e o 0 ∧ c ≤ p ∧ e ≤ 2 * p ∧ o ≤ p ∧ z.1 21 6 = nI (cn (z.1 5) 5 p) ∧ Md x (z.1 5) (x.2 7) p (∃ F S O, LQ x z cf p c e F S O)
def Ln (N : Nat) (x z : XS) (p : Nat) (C : Bool × XS) (G : Option (Bool × XS)) : Prop :=
  (∃ w, G = some (false, w) ∧ C.1 = false ∧ Fl N x z C.2 w) ∨ (∃ w cg p' c' e' o', G = some (true, w) ∧ C.1 = true ∧ p < p' ∧ LSt N C.2 w cg p' c' e' o' ∧ WF x z C.2 w)
theorem It_mono {x z : XS} {F S F' S' pl nx nx' : Nat} {T T' : List Bool} (hF : F ≤ F') (hS : S ≤ S') (h : ItX x z F S pl nx nx' T T') : ItX x z F' S' pl nx nx' T T' := by
  unfold ItX at h ⊢
  rcases h with h | h | h | h | h | h | ⟨o1, o2, o4, o5, d, d1, d2, d3⟩ | ⟨o1, o2, o4, o5, k, k1, k2, k3⟩ | ⟨o1, o2, o4, o5, d, g', d1, g1, d2, g2, d3, g3⟩ | h | h
  · exact Or.inl h
  · exact Or.inr (Or.inl h)
  · exact Or.inr (Or.inr (Or.inl h))
  · exact Or.inr (Or.inr (Or.inr (Or.inl h)))
  · exact Or.inr (Or.inr (Or.inr (Or.inr (Or.inl h))))
  · exact Or.inr (Or.inr (Or.inr (Or.inr (Or.inr (Or.inl h)))))
  · exact Or.inr (Or.inr (Or.inr (Or.inr (Or.inr (Or.inr (Or.inl ⟨o1, o2, o4, o5, d, by omega, d2, d3⟩))))))
  · exact Or.inr (Or.inr (Or.inr (Or.inr (Or.inr (Or.inr (Or.inr (Or.inl ⟨o1, o2, o4, o5, k, by omega, k2, k3⟩)))))))
  · exact Or.inr (Or.inr (Or.inr (Or.inr (Or.inr (Or.inr (Or.inr (Or.inr (Or.inl ⟨o1, o2, o4, o5, d, g', by omega, by omega, d2, g2, d3, g3⟩))))))))
  · exact Or.inr (Or.inr (Or.inr (Or.inr (Or.inr (Or.inr (Or.inr (Or.inr (Or.inr (Or.inl h)))))))))
  · exact Or.inr (Or.inr (Or.inr (Or.inr (Or.inr (Or.inr (Or.inr (Or.inr (Or.inr (Or.inr h)))))))))
theorem Pre.mono {x : XS} {cf : Nat → Int32} {F S F' S' : Nat} (hF : F ≤ F') (hS : S ≤ S') : ∀ {n pl nx : Nat} {T : List Bool} {nx' : Nat} {T' : List Bool}, Pre x cf F S n pl nx T nx' T' → Pre x cf F' S' n pl nx T nx' T'
  | 0, _, _, _, _, _, h => h
  | _ + 1, _, _, _, _, _, ⟨nx1, T1, h, a, b, c⟩ => ⟨nx1, T1, Pre.mono hF hS h, a, b, It_mono hF hS c⟩
theorem Cst_of {x y w v : XS} {F F' S : Nat} (hF : F ≤ F') (h1 : ∀ q k, 9 ≤ q → q ≤ 13 → k < S → y.1 q k = x.1 q k) (h2 : ∀ q k, 22 ≤ q → q ≤ 24 → k < S → v.1 q k = w.1 q k) (h : Cst x w F S) : Cst y v F' S := by
  intro k hk
  obtain ⟨a, b, a1, a2, a3, a4, a5, a6, a7, a8, a9⟩ := h k hk
  have e := fun q u v => h1 q k u v hk
  have g := fun q u v => h2 q k u v hk
  refine ⟨a, b, by omega, by omega, ?_, ?_, ?_, ?_, ?_, ?_, ?_⟩
  · rw [e 10 (by decide) (by decide)]; exact a3
  · rw [e 11 (by decide) (by decide)]; exact a4
  · rw [g 23 (by decide) (by decide)]; exact a5
  · rw [g 24 (by decide) (by decide)]; exact a6
  · rw [e 9 (by decide) (by decide), g 22 (by decide) (by decide)]; exact a7
  · rw [e 12 (by decide) (by decide), e 9 (by decide) (by decide)]; exact a8
  · rw [e 13 (by decide) (by decide), e 9 (by decide) (by decide)]; exact a9
theorem Cor_of {x y z u w v : XS} {cf cg : Nat → Int32} {F F' S S' O c c' e e' : Nat} (hF : F ≤ F') (hS : S ≤ S') (hc : c ≤ c') (he : e ≤ e') (h1 : ∀ q k, 14 ≤ q → q ≤ 17 → k < O → y.1 q k = x.1 q k) (h1c : ∀ q k, 18 ≤ q → q ≤ 20 → k < c → y.1 q k = x.1 q k) (hcf : ∀ i, i < e → cg i = cf i)
    (h2 : ∀ q k, q = 27 ∨ q = 28 → k < O → u.1 q k = z.1 q k) (h3 : ∀ q k, q = 25 ∨ q = 26 → k < O → v.1 q k = w.1 q k) (h : Cor x z w cf F S O c e) : Cor y u v cg F' S' O c' e' := by
  intro k hk
  obtain ⟨a, n, s, f, t, a1, a2, a3, a4, a5, a6, a7, a8, a9, a10, a11, a12⟩ := h k hk
  refine ⟨a, n, s, f, t, ?_, ?_, by omega, ?_, ?_, a6, by omega, ?_, by omega, ?_, ?_, ?_⟩
  · rw [h1 16 k (by decide) (by decide) hk]; exact a1
  · rw [h1 17 k (by decide) (by decide) hk]; exact a2
  · rw [h2 27 k (by simp) hk]; exact a4
  · rw [h2 28 k (by simp) hk]; exact a5
  · exact a8.imp id (fun ⟨g1, g2⟩ => ⟨g1, Pre.mono hF hS (Pre.of (fun q i b1 b2 b3 => h1c q i b1 b2 (by omega)) (fun i hi => hcf i (by omega)) g2)⟩)
  · rw [h1 15 k (by decide) (by decide) hk]; exact a10
  · rw [h3 26 k (by simp) hk]; exact a11
  · rw [h1 14 k (by decide) (by decide) hk, h3 25 k (by simp) hk]; exact a12
theorem eatAs_t {z : XS} {p : Nat} (hz : z.1 0 9 = nI p) (hp : p < 401) {v r : Int32} (h : z.1 2 p = v) : f_X10_eatAs v r z = some (true, rl z p r) := by
  rw [eatAs_eq hz hp, eat_t (z := setI z 5 p r) (p := p) ((rdI_ne (by decide)).trans hz) hp ((rdI_ne (by decide)).trans h)]; rfl
theorem eatAs_f {z : XS} {p : Nat} (hz : z.1 0 9 = nI p) (hp : p < 401) {v r : Int32} (h : z.1 2 p ≠ v) : f_X10_eatAs v r z = some (false, setI z 5 p r) := by
  rw [eatAs_eq hz hp, eat_f (z := setI z 5 p r) (p := p) ((rdI_ne (by decide)).trans hz) hp (fun q => h ((rdI_ne (by decide)).symm.trans q))]
theorem WF.refl (x z : XS) : WF x z x z := ⟨fun _ _ _ _ => rfl, fun _ _ _ _ => rfl, fun _ _ _ _ _ _ => rfl⟩
theorem WF.adv {x z : XS} {p p' : Nat} (h : x.1 34 4 = nI p) : WF x z (adv x) (setI z 0 9 (nI p')) := by
  rw [adv_x h]
  refine ⟨fun _ _ a _ => rdI_ne a, fun _ _ _ _ => rfl, fun q k _ _ c _ => ?_⟩
  by_cases hq : q = 0
  · exact rdI_nk (fun hk => c ⟨hq, Or.inl hk⟩)
  · exact rdI_ne hq
theorem WF.rl {x y z : XS} {p : Nat} {r : Int32} (h1 : ∀ q k, q ≠ 34 → ¬ (8 ≤ q ∧ q ≤ 20) → y.1 q k = x.1 q k) (h2 : ∀ q k, q ≠ 35 → q ≠ 36 → y.2 q k = x.2 q k) : WF x z y (rl z p r) :=
  ⟨h1, h2, fun _ _ a _ c _ => rl_n (fun h => a h.1) (fun h => c ⟨h.1, Or.inl h.2⟩)⟩
theorem Sb.fl5 {N : Nat} {x z : XS} {cf : Nat → Int32} {p c e o d : Nat} (h : Sb N x z cf p c e o d) (r : Int32) : Fl N x z x (setI z 5 p r) :=
  ⟨⟨p, h.2.1, h.2.2.1, (rdI_ne (by decide)).trans h.z9⟩, fun _ _ _ _ => rfl, fun _ _ _ _ => rfl, fun _ _ a _ _ _ => rdI_ne a⟩
theorem Sb.fl {N : Nat} {x z x0 z0 : XS} {cf : Nat → Int32} {p c e o d : Nat} (h : Sb N x z cf p c e o d) (g : WF x0 z0 x z) : Fl N x0 z0 x z := ⟨⟨p, h.2.1, h.2.2.1, h.z9⟩, g⟩
theorem er1 {σ : Nat → Int32} {V : Nat → Int64} {p : Nat} (h : σ p = 1) : er σ V p = if tl σ V 1 (V p) p = -1 then (if cn σ 1 p = 10 then 4 else 0) else 2 := by unfold er; rw [h, if_pos rfl]
theorem er2 {σ : Nat → Int32} {V : Nat → Int64} {p : Nat} (h : σ p = 2) : er σ V p = if tl σ V 2 (V p) p = -1 then (if cn σ 2 p = 20 then 4 else 0) else 2 := by unfold er; rw [h, if_neg (by decide), if_pos rfl]
/-- a new name: what the class does, put is what it does where the name is right -/
theorem new_eval {x : XS} {p : Nat} (hx : x.1 34 4 = nI p) {m c : Int32} {n : Nat} {put : XS} (hn : n ≤ 20) (hp0 : ∀ q k, q ≠ 8 → put.1 q k = x.1 q k) {C : Bool × XS}
    (hC : C = if m < 0 then (if c < 0 then (true, adv (noteF x 4)) else if nI n ≤ c then (true, adv (noteF x 4)) else (true, adv put)) else (true, adv (noteF x 2))) :
    ∃ y, C = (true, y) ∧ (y = adv put ∨ ((∀ q k, q ≠ 34 → y.1 q k = x.1 q k) ∧ y.2 = x.2 ∧ y.1 34 4 = nI (p + 1))) ∧ (x.1 34 5 ≠ 0 → y.1 34 5 = x.1 34 5 ∧ y.1 34 6 = x.1 34 6) ∧
      (x.1 34 5 = 0 → ∀ F, F ≤ n → c = nI F → (m = -1 ∧ F = n → y.1 34 5 = 4 ∧ y.1 34 6 = nI p) ∧ (m = -1 ∧ F ≠ n → y = adv put) ∧ (∀ k, k < 20 → m = nI k → y.1 34 5 = 2 ∧ y.1 34 6 = nI p)) := by
  obtain ⟨a1, a2, a3, a4, a5⟩ := note_adv x hx True 4
  obtain ⟨b1, b2, b3, b4, b5⟩ := note_adv x hx True 2
  rw [if_pos trivial] at a1 a2 a3 a4 a5 b1 b2 b3 b4 b5
  have hput : (adv put).1 34 5 = x.1 34 5 ∧ (adv put).1 34 6 = x.1 34 6 := by
    rw [adv_x (p := p) ((hp0 34 4 (by decide)).trans hx), rdI_nk (by decide), rdI_nk (by decide), hp0 34 5 (by decide), hp0 34 6 (by decide)]
    exact ⟨rfl, rfl⟩
  rw [hC]
  by_cases hm : m < 0
  · rw [if_pos hm]
    have hnk : ∀ k, k < 20 → m ≠ nI k := fun k hk e => by rw [e] at hm; exact nI_nn (by omega) hm
    by_cases hc : c < 0
    · rw [if_pos hc]
      refine ⟨_, rfl, Or.inr ⟨a1, a2, a3⟩, fun h => a4 (Or.inl h), fun h F hF e => ?_⟩
      rw [e] at hc
      exact absurd hc (nI_nn (by omega))
    · rw [if_neg hc]
      by_cases hn' : nI n ≤ c
      · rw [if_pos hn']
        refine ⟨_, rfl, Or.inr ⟨a1, a2, a3⟩, fun h => a4 (Or.inl h), fun h F hF e => ⟨fun _ => a5 h trivial, fun g => ?_, fun k hk g => absurd g (hnk k hk)⟩⟩
        rw [e] at hn'
        have := (nI_leq (by omega) (by omega)).mp hn'
        omega
      · rw [if_neg hn']
        refine ⟨_, rfl, Or.inl rfl, fun _ => hput, fun h F hF e => ⟨fun g => ?_, fun _ => rfl, fun k hk g => absurd g (hnk k hk)⟩⟩
        rw [e, g.2] at hn'
        exact absurd (Int32.le_refl _) hn'
  · rw [if_neg hm]
    have hm1 : m ≠ -1 := fun e => hm (by rw [e]; decide)
    exact ⟨_, rfl, Or.inr ⟨b1, b2, b3⟩, fun h => b4 (Or.inl h), fun h F hF e => ⟨fun g => absurd g.1 hm1, fun g => absurd g.1 hm1, fun _ _ _ => b5 h trivial⟩⟩
theorem ln_family {N : Nat} {x z : XS} {cf : Nat → Int32} {p c e o : Nat} (h : LSt N x z cf p c e o) (hk : curK x = 300) : Ln N x z p (famU x) (f_X10_isFamily z) := by
  obtain ⟨hb, hc, he, ho, h6, hm⟩ := h
  have hN := hb.N
  have hp := hb.nx hk (by decide) (by decide)
  have b1 := sb_adv hb hp
  have hN1 := b1.N
  have hx1 := b1.2.2.1
  have r0 : z.1 5 p = 0 := hb.2.2.2.2.1 p (Nat.le_refl _) hb.2.1
  have m1 := Md_adv hm hb.2.2.1 r0 id
  have wf1 := WF.adv (z := z) (p' := p + 1) hb.2.2.1
  have e7 : (adv x).2 = x.2 := rfl
  have eK : (setI z 0 9 (nI (p + 1))).1 2 = z.1 2 := rowI (by decide)
  have e5 : (setI z 0 9 (nI (p + 1))).1 5 = z.1 5 := rowI (by decide)
  have exa : ∀ q k, q ≠ 34 → (adv x).1 q k = x.1 q k := fun q k hq => by rw [adv_x hb.2.2.1, rdI_ne hq]
  have ez : ∀ q k, q ≠ 0 → (setI z 0 9 (nI (p + 1))).1 q k = z.1 q k := fun q k hq => rdI_ne hq
  unfold f_X10_isFamily
  rw [hb.z9, show nI p + 1 = nI (p + 1) from nI_addN p 1, ob_pair]
  generalize hz1 : setI z 0 9 (nI (p + 1)) = z1 at *
  by_cases hk1 : curK (adv x) = 258
  · have hp1 := b1.nx hk1 (by decide) (by decide)
    rw [eatAs_t b1.z9 (by omega) ((b1.kz 258 40 (by decide)).mp hk1)]
    have hfu : famU x = if findF (adv x) 35 10 ((adv x).1 8 0) (x.2 7 (p + 1)) < 0 then (if (adv x).1 8 0 < 0 then (true, adv (noteF (adv x) 4)) else if nI 10 ≤ (adv x).1 8 0 then (true, adv (noteF (adv x) 4)) else (true, adv (setI (setL (adv x) 35 ((adv x).1 8 0).toNatClampNeg (x.2 7 (p + 1))) 8 0 ((adv x).1 8 0 + 1)))) else (true, adv (noteF (adv x) 2)) := by
      unfold famU
      dsimp only
      rw [next_t hk1, if_pos rfl, curV_ok b1.1 b1.2.1 hx1]; rfl
    obtain ⟨y, y1, y2, y3, y4⟩ := new_eval (n := 10) hx1 (by decide) (fun q k hq => by exact rdI_ne hq) hfu
    have yx : y.1 34 4 = nI (p + 2) ∧ (∀ q k, q ≠ 34 → ¬ (q = 8 ∧ k = 0) → y.1 q k = (adv x).1 q k) ∧ (∀ q k, q ≠ 35 → y.2 q k = x.2 q k) := by
      rcases y2 with y2 | ⟨g1, g2, g3⟩
      · rw [y2, adv_x (p := p + 1) (by exact (rdI_ne (by decide)).trans hx1)]
        refine ⟨rdI_eq, fun q k a b => ?_, fun q k a => rdL_ne a⟩
        rw [rdI_ne a, rdI, if_neg b]; rfl
      · exact ⟨g3, fun q k a _ => g1 q k a, fun q k _ => by rw [g2]; rfl⟩
    obtain ⟨yx1, yx2, yx3⟩ := yx
    have s2 := sb_step b1 hp1 1 (y := y) (fun q k hq => yx2 q k (by omega) (by omega)) (fun k => yx3 7 k (by decide)) yx1 ((yx2 8 12 (by decide) (by decide)).trans b1.2.2.2.2.2.1) ⟨fun g => absurd g (by decide), fun g => absurd g (by decide), fun _ => b1.ck.symm.trans hk1, fun g => absurd g (by decide)⟩
    have hrl : ∀ j, j ≠ p + 1 → (rl z1 (p + 1) 1).1 5 j = z1.1 5 j := fun j hj => rl_n (by omega) (by omega)
    have hrl' : ∀ j, j < p → (rl z1 (p + 1) 1).1 5 j = z.1 5 j := fun j hj => by rw [hrl j (by omega), e5]
    have rlp : (rl z1 (p + 1) 1).1 5 p = 0 := by rw [hrl p (by omega), e5]; exact r0
    have rlq : (rl z1 (p + 1) 1).1 5 (p + 1) = 1 := rl_5 _ _ _
    have y7 : y.2 7 = x.2 7 := funext fun k => yx3 7 k (by decide)
    have n5 : cn ((rl z1 (p + 1) 1).1 5) 5 (p + 2) = cn (z.1 5) 5 p := by
      rw [cn_n (by rw [rlq]; decide), cn_n (by rw [rlp]; decide), cn_cong hrl']
    have K2 : (rl z1 (p + 1) 1).1 2 = z.1 2 := (funext fun k => rl_n (by omega) (by omega) : (rl z1 (p + 1) 1).1 2 = z1.1 2).trans eK
    have hσ : ∀ j, j < p + 1 → (rl z1 (p + 1) 1).1 5 j = z.1 5 j := fun j hj => by rw [hrl j (by omega), e5]
    refine Or.inr ⟨rl z1 (p + 1) 1, cf, p + 2, c, e, o, rfl, by rw [y1], by omega, ⟨by rw [y1]; exact s2, by omega, by omega, by omega, ?_, ?_⟩, ?_⟩
    · rw [rl_n (by omega) (by omega), ez _ _ (by decide), n5]; exact h6
    · rw [y1]
      dsimp only
      rw [y7]
      refine Md_step m1 hσ y3 (fun h5 hQ => ?_)
      obtain ⟨F, S, O, q1, q2, ⟨q3, q4, q5⟩, q6, q7⟩ := hQ
      have fa : FamL (adv x) (z.1 5) (x.2 7) (p + 1) F := FamL_of (by omega) (exa _ _ (by decide)) (fun _ => rfl) (fun _ _ => rfl) (fun j a b => by rw [show j = p by omega, r0]; decide) q1
      obtain ⟨f1, f2⟩ := fam_find (by omega) fa (x.2 7 (p + 1))
      have tl1 : tl ((rl z1 (p + 1) 1).1 5) (x.2 7) 1 (x.2 7 (p + 1)) (p + 1) = tl (z.1 5) (x.2 7) 1 (x.2 7 (p + 1)) (p + 1) := tl_cong hσ (fun _ => rfl)
      have cn1 : cn ((rl z1 (p + 1) 1).1 5) 1 (p + 1) = F := by rw [cn_cong hσ]; exact f2
      obtain ⟨g1, g2, g3⟩ := y4 h5 F q1.2.1 fa.2.2.1
      rw [f1] at g1 g2 g3
      rw [er1 rlq, tl1, cn1]
      rcases tl_val (ρ := z.1 5) (V := x.2 7) (r := 1) (v := x.2 7 (p + 1)) (p := p + 1) (by omega) with ht | ⟨k, k1, k2⟩
      · rw [if_pos ht]
        by_cases hF : F = 10
        · rw [if_pos hF]
          exact Or.inr ⟨by decide, g1 ⟨ht, hF⟩⟩
        · rw [if_neg hF]
          have hy := g2 ⟨ht, hF⟩
          have h8 : (adv x).1 8 0 = nI F := fa.2.2.1
          have hF10 := q1.2.1
          rw [h8, nI_clamp (by omega), show nI F + 1 = nI (F + 1) from nI_addN F 1] at hy
          have ya : y = setI (setI (setL (adv x) 35 F (x.2 7 (p + 1))) 8 0 (nI (F + 1))) 34 4 (nI (p + 1 + 1)) := by
            rw [hy]; exact adv_x (p := p + 1) ((rdI_ne (by decide)).trans hx1)
          refine Or.inl ⟨rfl, ?_, F + 1, S, O, ⟨?_, by omega, ?_, ?_⟩, ?_, ⟨?_, q4, ?_⟩, ?_, ?_⟩
          · rw [ya, rdI_nk (by decide), rdI_ne (by decide)]; exact h5
          · rw [cn_y rlq, cn1]
          · rw [ya, rdI_ne (by decide), rdI_eq]
          · rw [y7]
            intro j hj hj1
            have y35 : ∀ k, y.2 35 k = if k = F then x.2 7 (p + 1) else x.2 35 k := fun k => by
              rw [ya]
              show (setL (adv x) 35 F (x.2 7 (p + 1))).2 35 k = _
              by_cases hkF : k = F
              · rw [hkF, rdL_eq, if_pos rfl]
              · rw [rdL_nk hkF, if_neg hkF]; rfl
            rw [y35]
            rcases Nat.lt_or_ge j p with h1 | h1
            · rw [cn_cong (fun i hi => hrl' i (by omega)), if_neg ?_]
              · exact q1.2.2.2 j h1 (by rw [← hrl' j h1]; exact hj1)
              · have := cn_lt (ρ := z.1 5) (r := 1) h1 (by rw [← hrl' j h1]; exact hj1)
                have := q1.1
                omega
            · have hjp : j = p + 1 := by
                rcases Nat.lt_or_ge p j with h2 | h2
                · omega
                · rw [show j = p by omega, rlp] at hj1; exact absurd hj1 (by decide)
              rw [hjp, cn1, if_pos rfl]
          · rw [y7]
            exact StmL_of (by omega) (by rw [yx2 8 1 (by decide) (by decide)]; exact exa _ _ (by decide)) (fun k => yx3 36 k (by decide)) hrl' (fun j a b => by
              rcases Nat.lt_or_ge p j with h2 | h2
              · rw [show j = p + 1 by omega, rlq]; decide
              · rw [show j = p by omega, rlp]; decide) q2
          · rw [n5]; exact q3
          · rw [yx2 8 7 (by decide) (by decide), exa _ _ (by decide)]; exact q5
          · rw [y7, K2, p2_1, eff0 (Or.inr rlq), p2_1, eff0 (Or.inl rlp), p2_cong hrl']
            exact Cst_of (by omega) (fun q k a b _ => by rw [yx2 q k (by omega) (by omega)]; exact exa _ _ (by omega)) (fun _ _ _ _ _ => rfl) q6
          · rw [y7, K2, p2_1, eff0 (Or.inr rlq), p2_1, eff0 (Or.inl rlp), p2_cong hrl']
            exact Cor_of (by omega) (Nat.le_refl _) (Nat.le_refl _) (Nat.le_refl _) (fun q k a b _ => by rw [yx2 q k (by omega) (by omega)]; exact exa _ _ (by omega)) (fun q k a b _ => by rw [yx2 q k (by omega) (by omega)]; exact exa _ _ (by omega)) (fun _ _ => rfl) (fun q k hq _ => by rw [rl_n (by omega) (by omega), ez _ _ (by omega)]) (fun _ _ _ _ => rfl) q7
      · have := q1.2.1
        rw [k2, if_neg (nI_nm1 (by omega))]
        have f2' : cn (z.1 5) 1 (p + 1) = F := f2
        exact Or.inr ⟨by decide, g3 k (by omega) k2⟩
    · rw [y1]
      exact wf1.trans (WF.rl (fun q k a b => yx2 q k a (by omega)) (fun q k a _ => (yx3 q k a).trans (by rw [e7])))
  · rw [eatAs_f b1.z9 (by omega) (fun q => hk1 ((b1.kz 258 40 (by decide)).mpr q))]
    have e1 : famU x = (false, adv x) := by unfold famU; dsimp only; rw [next_f hk1, if_neg (by decide)]
    rw [e1]
    exact Or.inl ⟨_, rfl, rfl, (b1.fl5 1).after wf1⟩
