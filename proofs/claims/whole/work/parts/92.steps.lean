/-! One step of both readings -/
def FamL (x : XS) (ρ : Nat → Int32) (V : Nat → Int64) (p F : Nat) : Prop := cn ρ 1 p = F ∧ F ≤ 10 ∧ x.1 8 0 = nI F ∧ ∀ j, j < p → ρ j = 1 → x.2 35 (cn ρ 1 j) = V j
def StmL (x : XS) (ρ : Nat → Int32) (V : Nat → Int64) (p S : Nat) : Prop := cn ρ 2 p = S ∧ S ≤ 20 ∧ x.1 8 1 = nI S ∧ ∀ j, j < p → ρ j = 2 → x.2 36 (cn ρ 2 j) = V j
def EA (x : XS) (ρ : Nat → Int32) (V : Nat → Int64) (p : Nat) : Prop := ∃ t, t < p ∧ x.1 34 6 = nI t ∧ x.1 34 5 ≠ 0 ∧ (∀ j, j < t → er ρ V j = 0) ∧ er ρ V t = x.1 34 5
def Md (x : XS) (ρ : Nat → Int32) (V : Nat → Int64) (p : Nat) (Q : Prop) : Prop := (x.1 34 5 = 0 ∧ (∀ j, j < p → er ρ V j = 0) ∧ Q) ∨ EA x ρ V p
def RoK (ρ K : Nat → Int32) (p : Nat) : Prop := ∀ j, j < p → (ρ j = 3 ∨ ρ j = 4 → 0 < cn ρ 2 j) ∧ (ρ j = 6 → 0 < cn ρ 5 j) ∧ (ρ j = 1 ∨ ρ j = 2 ∨ ρ j = 3 ∨ ρ j = 4 ∨ ρ j = 6 ∨ ρ j = 7 ∨ ρ j = 8 → K j = 258) ∧ (ρ j = 2 → 0 < j)
def CF (z : XS) (V : Nat → Int64) (cf : Nat → Int32) (e o p : Nat) : Prop :=
  (∀ i, i < e → (∀ j, j < o → z.1 30 j ≠ nI i) → cf i = z.1 29 i) ∧
  (∀ j, j < o → ∃ i tk, i < e ∧ tk < p ∧ z.1 30 j = nI i ∧ z.1 29 i = nI tk ∧ cf i = mnr (z.1 5) V tk ∧ (z.1 5 tk = 7 ∨ z.1 5 tk = 8)) ∧
  (∀ j k, j < k → k < o → z.1 30 j ≠ z.1 30 k)
def St (N F S : Nat) (x z : XS) (cf : Nat → Int32) (p c e o d : Nat) : Prop :=
  TokR x z N ∧ p < N ∧ x.1 34 4 = nI p ∧ z.1 0 9 = nI p ∧ (∀ t, p ≤ t → t < N → z.1 5 t = 0) ∧ x.1 8 12 = nI c ∧ z.1 21 12 = nI e ∧ z.1 21 14 = nI o ∧ z.1 0 10 = nI d ∧ CF z (x.2 7) cf e o p ∧ RoK (z.1 5) (x.1 5) p ∧ Md x (z.1 5) (x.2 7) p (FamL x (z.1 5) (x.2 7) p F ∧ StmL x (z.1 5) (x.2 7) p S)
def Fr (x z : XS) (cf : Nat → Int32) (p c e : Nat) (y w : XS) (cg : Nat → Int32) (p' : Nat) : Prop :=
  (∀ q k, q ≠ 34 → ¬ (18 ≤ q ∧ q ≤ 20) → ¬ (q = 8 ∧ k = 12) → y.1 q k = x.1 q k) ∧ y.2 = x.2 ∧
  (∀ q k, 18 ≤ q → q ≤ 20 → k < c → y.1 q k = x.1 q k) ∧
  (∀ q k, q ≠ 5 → q ≠ 29 → q ≠ 30 → ¬ (q = 0 ∧ (k = 9 ∨ k = 10)) → ¬ (q = 21 ∧ (k = 12 ∨ k = 14)) → w.1 q k = z.1 q k) ∧
  (∀ j, j < p → w.1 5 j = z.1 5 j) ∧ (∀ j, p ≤ j → j < p' → w.1 5 j = 0 ∨ w.1 5 j = 7 ∨ w.1 5 j = 8) ∧
  (∀ i, i < e → cg i = cf i) ∧ (y.1 34 5 = 0 → x.1 34 5 = 0)
def Go (N F S : Nat) (x z : XS) (cf : Nat → Int32) (p c e o : Nat) (y w : XS) (cg : Nat → Int32) (p' c' e' o' d' : Nat) : Prop := p ≤ p' ∧ c ≤ c' ∧ e ≤ e' ∧ o ≤ o' ∧ St N F S y w cg p' c' e' o' d' ∧ Fr x z cf p c e y w cg p'
theorem Fr.trans {x z x1 z1 x2 z2 : XS} {cf cf1 cf2 : Nat → Int32} {p c e p1 c1 e1 p2 : Nat} (hp : p ≤ p1) (hc : c ≤ c1) (he : e ≤ e1) (h : Fr x z cf p c e x1 z1 cf1 p1) (g : Fr x1 z1 cf1 p1 c1 e1 x2 z2 cf2 p2) : Fr x z cf p c e x2 z2 cf2 p2 := by
  obtain ⟨h1, h2, h3, h4, h5, h6, h7, h8⟩ := h
  obtain ⟨g1, g2, g3, g4, g5, g6, g7, g8⟩ := g
  refine ⟨fun q k a b d => (g1 q k a b d).trans (h1 q k a b d), g2.trans h2, fun q k a b d => (g3 q k a b (by omega)).trans (h3 q k a b d), fun q k a b d f i => (g4 q k a b d f i).trans (h4 q k a b d f i), fun j hj => (g5 j (by omega)).trans (h5 j hj), fun j a b => ?_, fun i hi => (g7 i (by omega)).trans (h7 i hi), fun a => h8 (g8 a)⟩
  rcases Nat.lt_or_ge j p1 with hj | hj
  · rw [g5 j hj]; exact h6 j a hj
  · exact g6 j hj b
theorem Go.trans {N F S : Nat} {x z x1 z1 x2 z2 : XS} {cf cf1 cf2 : Nat → Int32} {p c e o p1 c1 e1 o1 d1 p2 c2 e2 o2 d2 : Nat} (h : Go N F S x z cf p c e o x1 z1 cf1 p1 c1 e1 o1 d1) (g : Go N F S x1 z1 cf1 p1 c1 e1 o1 x2 z2 cf2 p2 c2 e2 o2 d2) : Go N F S x z cf p c e o x2 z2 cf2 p2 c2 e2 o2 d2 := by
  obtain ⟨h1, h2, h3, h4, h5, h6⟩ := h
  obtain ⟨g1, g2, g3, g4, g5, g6⟩ := g
  exact ⟨by omega, by omega, by omega, by omega, g5, h6.trans h1 h2 h3 g6⟩
theorem Go.st {N F S : Nat} {x z x1 z1 : XS} {cf cf1 : Nat → Int32} {p c e o p1 c1 e1 o1 d1 : Nat} (h : Go N F S x z cf p c e o x1 z1 cf1 p1 c1 e1 o1 d1) : St N F S x1 z1 cf1 p1 c1 e1 o1 d1 := h.2.2.2.2.1
theorem Go.fr {N F S : Nat} {x z x1 z1 : XS} {cf cf1 : Nat → Int32} {p c e o p1 c1 e1 o1 d1 : Nat} (h : Go N F S x z cf p c e o x1 z1 cf1 p1 c1 e1 o1 d1) : Fr x z cf p c e x1 z1 cf1 p1 := h.2.2.2.2.2
theorem rowI {z : XS} {q k q' : Nat} {v : Int32} (h : q' ≠ q) : (setI z q k v).1 q' = z.1 q' := funext fun _ => rdI_ne h
theorem er0 {ρ : Nat → Int32} {V : Nat → Int64} {j : Nat} (h : ρ j = 0) : er ρ V j = 0 := by unfold er; simp [h]
theorem FamL_of {x y : XS} {ρ σ : Nat → Int32} {V : Nat → Int64} {p p' F : Nat} (hp : p ≤ p') (h0 : y.1 8 0 = x.1 8 0) (h2 : ∀ k, y.2 35 k = x.2 35 k) (hr : ∀ j, j < p → σ j = ρ j) (hn : ∀ j, p ≤ j → j < p' → σ j ≠ 1) (h : FamL x ρ V p F) : FamL y σ V p' F := by
  obtain ⟨a, b, c, d⟩ := h
  refine ⟨by rw [cn_skip hp hn, cn_cong hr]; exact a, b, h0.trans c, fun j hj e => ?_⟩
  rcases Nat.lt_or_ge j p with h | h
  · rw [h2, cn_cong (fun i hi => hr i (by omega))]; exact d j h (by rw [← hr j h]; exact e)
  · exact absurd e (hn j h hj)
theorem StmL_of {x y : XS} {ρ σ : Nat → Int32} {V : Nat → Int64} {p p' F : Nat} (hp : p ≤ p') (h0 : y.1 8 1 = x.1 8 1) (h2 : ∀ k, y.2 36 k = x.2 36 k) (hr : ∀ j, j < p → σ j = ρ j) (hn : ∀ j, p ≤ j → j < p' → σ j ≠ 2) (h : StmL x ρ V p F) : StmL y σ V p' F := by
  obtain ⟨a, b, c, d⟩ := h
  refine ⟨by rw [cn_skip hp hn, cn_cong hr]; exact a, b, h0.trans c, fun j hj e => ?_⟩
  rcases Nat.lt_or_ge j p with h | h
  · rw [h2, cn_cong (fun i hi => hr i (by omega))]; exact d j h (by rw [← hr j h]; exact e)
  · exact absurd e (hn j h hj)
theorem EA_of {x y : XS} {ρ σ : Nat → Int32} {V : Nat → Int64} {p p' : Nat} (hp : p ≤ p') (h5 : y.1 34 5 = x.1 34 5) (h6 : y.1 34 6 = x.1 34 6) (hr : ∀ j, j < p → σ j = ρ j) (h : EA x ρ V p) : EA y σ V p' := by
  obtain ⟨t, a, b, c, d, e⟩ := h
  exact ⟨t, by omega, h6.trans b, by rw [h5]; exact c, fun j hj => by rw [er_cong (fun i hi => hr i (by omega)) (fun _ => rfl)]; exact d j hj, by rw [er_cong (fun i hi => hr i (by omega)) (fun _ => rfl), h5]; exact e⟩
theorem RoK_of {ρ σ K : Nat → Int32} {p p' : Nat} (hr : ∀ j, j < p → σ j = ρ j) (hn : ∀ j, p ≤ j → j < p' → σ j = 0 ∨ σ j = 5 ∨ ((σ j = 7 ∨ σ j = 8) ∧ K j = 258)) (h : RoK ρ K p) : RoK σ K p' := by
  intro j hj
  rcases Nat.lt_or_ge j p with h1 | h1
  · rw [hr j h1, cn_cong (fun i hi => hr i (by omega)), cn_cong (fun i hi => hr i (by omega))]; exact h j h1
  · rcases hn j h1 hj with e | e | ⟨e | e, k⟩ <;> rw [e]
    · exact ⟨fun h => absurd h (by decide), fun h => absurd h (by decide), fun h => absurd h (by decide), fun h => absurd h (by decide)⟩
    · exact ⟨fun h => absurd h (by decide), fun h => absurd h (by decide), fun h => absurd h (by decide), fun h => absurd h (by decide)⟩
    · exact ⟨fun h => absurd h (by decide), fun h => absurd h (by decide), fun _ => k, fun h => absurd h (by decide)⟩
    · exact ⟨fun h => absurd h (by decide), fun h => absurd h (by decide), fun _ => k, fun h => absurd h (by decide)⟩
theorem adv_x {x : XS} {p : Nat} (h : x.1 34 4 = nI p) : adv x = setI x 34 4 (nI (p + 1)) := by unfold adv; rw [h]; exact congrArg (setI x 34 4) (nI_addN p 1)
theorem CF_p {z w : XS} {V : Nat → Int64} {cf : Nat → Int32} {e o p p' : Nat} (hp : p ≤ p') (h29 : ∀ k, w.1 29 k = z.1 29 k) (h30 : ∀ k, w.1 30 k = z.1 30 k) (h5 : ∀ j, j < p → w.1 5 j = z.1 5 j) (h : CF z V cf e o p) : CF w V cf e o p' := by
  obtain ⟨a, b, c⟩ := h
  refine ⟨fun i hi g => by rw [h29]; exact a i hi (fun j hj => by rw [← h30]; exact g j hj), fun j hj => ?_, fun j k a b => by rw [h30, h30]; exact c j k a b⟩
  obtain ⟨i, tk, b1, b2, b3, b4, b5, b6⟩ := b j hj
  exact ⟨i, tk, b1, by omega, by rw [h30]; exact b3, by rw [h29]; exact b4, by rw [b5]; exact (mn_cong (fun k hk => h5 k (by omega)) (fun _ => rfl)).symm, by rw [h5 _ b2]; exact b6⟩
/-- both take a token that has no name -/
theorem st_adv {N F S : Nat} {x z : XS} {cf : Nat → Int32} {p c e o d : Nat} (h : St N F S x z cf p c e o d) (hp : p + 1 < N) : Go N F S x z cf p c e o (adv x) (setI z 0 9 (nI (p + 1))) cf (p + 1) c e o d := by
  obtain ⟨hT, hpN, hx, hz, hr, hc, he, ho, hd, hcf, hro, hm⟩ := h
  have h5 : (setI z 0 9 (nI (p + 1))).1 5 = z.1 5 := rowI (by decide)
  have hrp : z.1 5 p = 0 := hr p (Nat.le_refl _) hpN
  have hnn : ∀ j, p ≤ j → j < p + 1 → z.1 5 j = 0 := fun j a b => by rw [show j = p by omega]; exact hrp
  rw [adv_x hx]
  refine ⟨by omega, Nat.le_refl _, Nat.le_refl _, Nat.le_refl _, ⟨?_, hp, rdI_eq, rdI_eq, ?_, ?_, ?_, ?_, ?_, ?_, ?_, ?_⟩, ?_⟩
  · exact TokR_of (fun q k hq => rdI_ne (by omega)) (fun _ => rfl) (fun q k a b => rdI_ne (by omega)) hT
  · rw [h5]; exact fun t a b => hr t (by omega) b
  · rw [rdI_ne (by decide)]; exact hc
  · rw [rdI_ne (by decide)]; exact he
  · rw [rdI_ne (by decide)]; exact ho
  · rw [rdI_nk (by decide)]; exact hd
  · exact CF_p (by omega) (fun k => rdI_ne (by decide)) (fun k => rdI_ne (by decide)) (fun j _ => rdI_ne (by decide)) hcf
  · rw [h5, rowI (by decide)]; exact RoK_of (fun _ _ => rfl) (fun j a b => Or.inl (hnn j a b)) hro
  · rw [h5]
    rcases hm with ⟨m1, m2, m3, m4⟩ | hm
    · refine Or.inl ⟨by rw [rdI_nk (by decide)]; exact m1, fun j hj => ?_, FamL_of (by omega) (rdI_ne (by decide)) (fun _ => rfl) (fun _ _ => rfl) (fun j a b => by rw [hnn j a b]; decide) m3, StmL_of (by omega) (rdI_ne (by decide)) (fun _ => rfl) (fun _ _ => rfl) (fun j a b => by rw [hnn j a b]; decide) m4⟩
      rcases Nat.lt_or_ge j p with h | h
      · exact m2 j h
      · exact er0 (hnn j h hj)
    · exact Or.inr (EA_of (by omega) (rdI_nk (by decide)) (rdI_nk (by decide)) (fun _ _ => rfl) hm)
  · refine ⟨fun q k a _ _ => rdI_ne a, rfl, fun q k a b _ => rdI_ne (by omega), fun q k _ _ _ a _ => ?_, fun j _ => by rw [h5], fun j a b => by rw [h5]; exact Or.inl (hnn j a b), fun _ _ => rfl, fun a => by rw [rdI_nk (by decide)] at a; exact a⟩
    by_cases hq : q = 0
    · exact rdI_nk (fun hk => a ⟨hq, Or.inl hk⟩)
    · exact rdI_ne hq
/-- the reference goes in or comes out -/
theorem st_dep {N F S : Nat} {x z : XS} {cf : Nat → Int32} {p c e o d : Nat} (d' : Nat) (h : St N F S x z cf p c e o d) : Go N F S x z cf p c e o x (setI z 0 10 (nI d')) cf p c e o d' := by
  obtain ⟨hT, hpN, hx, hz, hr, hc, he, ho, hd, hcf, hro, hm⟩ := h
  have h5 : (setI z 0 10 (nI d')).1 5 = z.1 5 := rowI (by decide)
  refine ⟨Nat.le_refl _, Nat.le_refl _, Nat.le_refl _, Nat.le_refl _, ⟨?_, hpN, hx, ?_, by rw [h5]; exact hr, hc, ?_, ?_, rdI_eq, ?_, by rw [h5]; exact hro, by rw [h5]; exact hm⟩, ?_⟩
  · exact TokR_of (fun _ _ _ => rfl) (fun _ => rfl) (fun q k a b => rdI_ne (by omega)) hT
  · rw [rdI_nk (by decide)]; exact hz
  · rw [rdI_ne (by decide)]; exact he
  · rw [rdI_ne (by decide)]; exact ho
  · exact CF_p (Nat.le_refl _) (fun k => rdI_ne (by decide)) (fun k => rdI_ne (by decide)) (fun j _ => rdI_ne (by decide)) hcf
  · refine ⟨fun _ _ _ _ _ => rfl, rfl, fun _ _ _ _ _ => rfl, fun q k _ _ _ a _ => ?_, fun j _ => by rw [h5], fun j a b => absurd b (by omega), fun _ _ => rfl, fun a => a⟩
    by_cases hq : q = 0
    · exact rdI_nk (fun hk => a ⟨hq, Or.inr hk⟩)
    · exact rdI_ne hq
def putS (z : XS) (e : Nat) (v : Int32) : XS := setI (setI z 29 e v) 21 12 (nI (e + 1))
def updF (cf : Nat → Int32) (e : Nat) (v : Int32) : Nat → Int32 := fun i => if i = e then v else cf i
theorem put_ok {z : XS} {e : Nat} (he : z.1 21 12 = nI e) (hl : e < 800) (v : Int32) : f_X10_put v z = some (putS z e v) := by
  unfold f_X10_put
  rw [he, inB_nI hl (by decide), og_tr, nI_clamp (by omega), rdI_ne (by decide), he, show nI e + 1 = nI (e + 1) from nI_addN e 1]; rfl
theorem st_put {N F S : Nat} {x z : XS} {cf : Nat → Int32} {p c e o d : Nat} (h : St N F S x z cf p c e o d) (hl : e < 800) (v : Int32) : f_X10_put v z = some (putS z e v) ∧ Go N F S x z cf p c e o x (putS z e v) (updF cf e v) p c (e + 1) o d := by
  obtain ⟨hT, hpN, hx, hz, hr, hc, he, ho, hd, hcf, hro, hm⟩ := h
  have h5 : (putS z e v).1 5 = z.1 5 := by unfold putS; rw [rowI (by decide), rowI (by decide)]
  have h30 : (putS z e v).1 30 = z.1 30 := by unfold putS; rw [rowI (by decide), rowI (by decide)]
  have hne : ∀ i, i < e → updF cf e v i = cf i := fun i hi => if_neg (by omega)
  have h29 : ∀ i, i < e → (putS z e v).1 29 i = z.1 29 i := fun i hi => by unfold putS; rw [rdI_ne (by decide), rdI_nk (by omega)]
  refine ⟨put_ok he hl v, Nat.le_refl _, Nat.le_refl _, by omega, Nat.le_refl _, ⟨?_, hpN, hx, ?_, by rw [h5]; exact hr, hc, rdI_eq, ?_, ?_, ?_, by rw [h5]; exact hro, by rw [h5]; exact hm⟩, ?_⟩
  · exact TokR_of (fun _ _ _ => rfl) (fun _ => rfl) (fun q k a b => by unfold putS; rw [rdI_ne (by omega), rdI_ne (by omega)]) hT
  · unfold putS; rw [rdI_ne (by decide), rdI_ne (by decide)]; exact hz
  · unfold putS; rw [rdI_nk (by decide), rdI_ne (by decide)]; exact ho
  · unfold putS; rw [rdI_ne (by decide), rdI_ne (by decide)]; exact hd
  · obtain ⟨a, b, g⟩ := hcf
    refine ⟨fun i hi k => ?_, fun j hj => ?_, fun j k => by rw [h30]; exact g j k⟩
    · rw [h30] at k
      rcases Nat.lt_or_ge i e with q | q
      · rw [hne i q, h29 i q]; exact a i q k
      · rw [show i = e by omega]; unfold updF putS; rw [if_pos rfl, rdI_ne (by decide), rdI_eq]
    · obtain ⟨i, tk, b1, b2, b3, b4, b5, b6⟩ := b j hj
      exact ⟨i, tk, by omega, b2, by rw [h30]; exact b3, by rw [h29 i b1]; exact b4, by rw [hne i b1, h5]; exact b5, by rw [h5]; exact b6⟩
  · refine ⟨fun _ _ _ _ _ => rfl, rfl, fun _ _ _ _ _ => rfl, fun q k a b _ _ f => ?_, fun j _ => by rw [h5], fun j a b => absurd b (by omega), hne, fun a => a⟩
    unfold putS
    by_cases hq : q = 21
    · rw [rdI_nk (fun hk => f ⟨hq, Or.inl hk⟩), rdI_ne b]
    · rw [rdI_ne hq, rdI_ne b]
def coS (x : XS) (c : Nat) (op f s : Int32) : XS := setI (setI (setI (setI x 18 c op) 19 c f) 20 c s) 8 12 (nI (c + 1))
theorem nI_nn {n : Nat} (h : n < 2 ^ 31) : ¬ nI n < 0 := fun q => by
  rw [Int32.lt_iff_toInt_lt, nI_toInt h] at q
  have : (0 : Int32).toInt = 0 := by decide
  omega
theorem co_ok {x : XS} {c : Nat} (hc : x.1 8 12 = nI c) (hl : c < 400) (op f s : Int32) : addCoF x op f s = coS x c op f s := by
  unfold addCoF
  rw [hc, if_neg (nI_nn (by omega)), if_neg (fun (q : (400 : Int32) ≤ nI c) => by have := (nI_leq (a := 400) (by omega) (by omega)).mp q; omega), nI_clamp (by omega), show nI c + 1 = nI (c + 1) from nI_addN c 1]; rfl
theorem coS_n {x : XS} {c : Nat} {op f s : Int32} {q k : Nat} (h1 : ¬ (18 ≤ q ∧ q ≤ 20) ∨ k ≠ c) (h2 : ¬ (q = 8 ∧ k = 12)) : (coS x c op f s).1 q k = x.1 q k := by
  unfold coS
  have e : ∀ {y : XS} {q' : Nat} {v : Int32}, 18 ≤ q' → q' ≤ 20 → (setI y q' c v).1 q k = y.1 q k := fun a b => by
    rcases h1 with h | h
    · exact rdI_ne (by omega)
    · exact rdI_nk h
  have e2 : ∀ {y : XS} {v : Int32}, (setI y 8 12 v).1 q k = y.1 q k := by
    intro y v
    by_cases hq : q = 8
    · exact rdI_nk (fun hk => h2 ⟨hq, hk⟩)
    · exact rdI_ne hq
  rw [e2, e (by decide) (by decide), e (by decide) (by decide), e (by decide) (by decide)]
theorem coS_v (x : XS) (c : Nat) (op f s : Int32) : (coS x c op f s).1 18 c = op ∧ (coS x c op f s).1 19 c = f ∧ (coS x c op f s).1 20 c = s := by
  unfold coS
  refine ⟨?_, ?_, ?_⟩
  · rw [rdI_ne (by decide), rdI_ne (by decide), rdI_ne (by decide), rdI_eq]
  · rw [rdI_ne (by decide), rdI_ne (by decide), rdI_eq]
  · rw [rdI_ne (by decide), rdI_eq]
theorem st_co {N F S : Nat} {x z : XS} {cf : Nat → Int32} {p c e o d : Nat} (h : St N F S x z cf p c e o d) (hl : c < 400) (op f s : Int32) : addCoF x op f s = coS x c op f s ∧ Go N F S x z cf p c e o (coS x c op f s) z cf p (c + 1) e o d := by
  obtain ⟨hT, hpN, hx, hz, hr, hc, he, ho, hd, hcf, hro, hm⟩ := h
  have k5 : (coS x c op f s).1 5 = x.1 5 := funext fun k => coS_n (by omega) (by omega)
  have k34 : ∀ k, (coS x c op f s).1 34 k = x.1 34 k := fun k => coS_n (by omega) (by omega)
  refine ⟨co_ok hc hl op f s, Nat.le_refl _, by omega, Nat.le_refl _, Nat.le_refl _, ⟨?_, hpN, by rw [k34]; exact hx, hz, hr, rdI_eq, he, ho, hd, hcf, by rw [k5]; exact hro, ?_⟩, ?_⟩
  · exact TokR_of (fun q k hq => coS_n (by omega) (by omega)) (fun _ => rfl) (fun q k a b => rfl) hT
  · rcases hm with ⟨m1, m2, m3, m4⟩ | hm
    · exact Or.inl ⟨by rw [k34]; exact m1, m2, FamL_of (Nat.le_refl _) (coS_n (by omega) (by omega)) (fun _ => rfl) (fun _ _ => rfl) (fun j a b => by omega) m3, StmL_of (Nat.le_refl _) (coS_n (by omega) (by omega)) (fun _ => rfl) (fun _ _ => rfl) (fun j a b => by omega) m4⟩
    · exact Or.inr (EA_of (Nat.le_refl _) (k34 _) (k34 _) (fun _ _ => rfl) hm)
  · exact ⟨fun q k a b d => coS_n (Or.inl b) d, rfl, fun q k a b d => coS_n (Or.inr (by omega)) (by omega), fun _ _ _ _ _ _ _ => rfl, fun _ _ => rfl, fun j a b => absurd b (by omega), fun _ _ => rfl, fun a => by rw [k34] at a; exact a⟩
