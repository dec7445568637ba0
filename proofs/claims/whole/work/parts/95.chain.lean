/-! The code of a test grows alike; chains of operations -/
def xs (x : XS) : XS := (fun q k => x.1 (q - 13) k, x.2)
def zs (cf : Nat → Int32) : XS := (fun _ k => cf k, fun _ _ => 0)
def Pre (x : XS) (cf : Nat → Int32) (F S : Nat) : Nat → Nat → Nat → List Bool → Nat → List Bool → Prop
  | 0, _, nx, T, nx', T' => nx' = nx ∧ T' = T
  | n + 1, pl, nx, T, nx', T' => ∃ nx1 T1, Pre x cf F S n pl nx T nx1 T1 ∧ nx1 < nx' ∧ T'.length ≤ 400 ∧ ItX (xs x) (zs cf) F S (pl + n) nx1 nx' T1 T'
theorem Pre.le {x : XS} {cf : Nat → Int32} {F S : Nat} : ∀ {n pl nx : Nat} {T : List Bool} {nx' : Nat} {T' : List Bool}, Pre x cf F S n pl nx T nx' T' → nx ≤ nx'
  | 0, _, _, _, _, _, h => by rw [h.1]; exact Nat.le_refl _
  | n + 1, _, _, _, _, _, ⟨nx1, T1, h, a, _⟩ => by have := Pre.le h; omega
theorem Pre.app {x : XS} {cf : Nat → Int32} {F S n pl nx nx1 : Nat} {T T1 : List Bool} (h : Pre x cf F S n pl nx T nx1 T1) : ∀ {m nx2 : Nat} {T2 : List Bool}, Pre x cf F S m (pl + n) nx1 T1 nx2 T2 → Pre x cf F S (n + m) pl nx T nx2 T2
  | 0, _, _, g => by obtain ⟨rfl, rfl⟩ := g; exact h
  | m + 1, _, _, ⟨nx3, T3, g, a, b, c⟩ => ⟨nx3, T3, h.app g, a, b, by rw [Nat.add_assoc] at c; exact c⟩
theorem Pre.one {x : XS} {cf : Nat → Int32} {F S pl nx nx' : Nat} {T T' : List Bool} (h : ItX (xs x) (zs cf) F S pl nx nx' T T') (a : nx < nx') (b : T'.length ≤ 400) : Pre x cf F S 1 pl nx T nx' T' := ⟨nx, T, ⟨rfl, rfl⟩, a, b, h⟩
theorem It_of {x y : XS} {cf cg : Nat → Int32} {F S pl nx nx' : Nat} {T T' : List Bool} (h1 : ∀ q, 18 ≤ q → q ≤ 20 → y.1 q pl = x.1 q pl) (h2 : ∀ i, i < nx' → cg i = cf i) (h : ItX (xs x) (zs cf) F S pl nx nx' T T') : ItX (xs y) (zs cg) F S pl nx nx' T T' := by
  have e1 : (xs y).1 31 pl = (xs x).1 31 pl := h1 18 (by decide) (by decide)
  have e2 : (xs y).1 32 pl = (xs x).1 32 pl := h1 19 (by decide) (by decide)
  have e3 : (xs y).1 33 pl = (xs x).1 33 pl := h1 20 (by decide) (by decide)
  have g : ∀ i, i < nx' → (zs cg).1 19 i = (zs cf).1 19 i := h2
  unfold ItX at h ⊢
  rw [e1, e2, e3]
  rcases h with ⟨o1, o2, o3, o4, o5⟩ | ⟨o1, o2, o4, t, rfl, rfl⟩ | ⟨o1, o2, o4, o5⟩ | ⟨o1, o2, o4, o5⟩ | ⟨o1, o2, o4, o5⟩ | ⟨o1, o2, o4, o5⟩ | ⟨o1, o2, o4, o5, d, d1, d2, d3⟩ | ⟨o1, o2, o4, o5, k, k1, k2, k3⟩ | ⟨o1, o2, o4, o5, d, g', d1, g1, d2, g2, d3, g3⟩ | ⟨o1, o2, o4, t, rfl, rfl⟩ | ⟨i, b, t, o1, o4, rfl, rfl⟩
  · exact Or.inl ⟨o1, by rw [g _ (by omega)]; exact o2, by rw [g _ (by omega)]; exact o3, o4, o5⟩
  · exact Or.inr (Or.inl ⟨o1, by rw [g _ (by omega)]; exact o2, o4, t, rfl, rfl⟩)
  · exact Or.inr (Or.inr (Or.inl ⟨o1, by rw [g _ (by omega)]; exact o2, o4, o5⟩))
  · exact Or.inr (Or.inr (Or.inr (Or.inl ⟨o1, by rw [g _ (by omega)]; exact o2, o4, o5⟩)))
  · exact Or.inr (Or.inr (Or.inr (Or.inr (Or.inl ⟨o1, by rw [g _ (by omega)]; exact o2, o4, o5⟩))))
  · exact Or.inr (Or.inr (Or.inr (Or.inr (Or.inr (Or.inl ⟨o1, by rw [g _ (by omega)]; exact o2, o4, o5⟩)))))
  · exact Or.inr (Or.inr (Or.inr (Or.inr (Or.inr (Or.inr (Or.inl ⟨o1, by rw [g _ (by omega)]; exact o2, o4, o5, d, d1, d2, by rw [g _ (by omega), g _ (by omega)]; exact d3⟩))))))
  · exact Or.inr (Or.inr (Or.inr (Or.inr (Or.inr (Or.inr (Or.inr (Or.inl ⟨o1, by rw [g _ (by omega)]; exact o2, o4, o5, k, k1, k2, by rw [g _ (by omega)]; exact k3⟩)))))))
  · exact Or.inr (Or.inr (Or.inr (Or.inr (Or.inr (Or.inr (Or.inr (Or.inr (Or.inl ⟨o1, by rw [g _ (by omega)]; exact o2, o4, o5, d, g', d1, g1, d2, g2, by rw [g _ (by omega), g _ (by omega)]; exact d3, by rw [g _ (by omega), g _ (by omega)]; exact g3⟩))))))))
  · exact Or.inr (Or.inr (Or.inr (Or.inr (Or.inr (Or.inr (Or.inr (Or.inr (Or.inr (Or.inl ⟨o1, by rw [g _ (by omega)]; exact o2, o4, t, rfl, rfl⟩)))))))))
  · exact Or.inr (Or.inr (Or.inr (Or.inr (Or.inr (Or.inr (Or.inr (Or.inr (Or.inr (Or.inr ⟨i, b, t, by rw [g _ (by omega)]; exact o1, o4, rfl, rfl⟩)))))))))
theorem Pre.of {x y : XS} {cf cg : Nat → Int32} {F S : Nat} : ∀ {n pl nx : Nat} {T : List Bool} {nx' : Nat} {T' : List Bool}, (∀ q k, 18 ≤ q → q ≤ 20 → k < pl + n → y.1 q k = x.1 q k) → (∀ i, i < nx' → cg i = cf i) → Pre x cf F S n pl nx T nx' T' → Pre y cg F S n pl nx T nx' T'
  | 0, _, _, _, _, _, _, _, h => h
  | n + 1, pl, nx, T, nx', T', h1, h2, ⟨nx1, T1, h, a, b, c⟩ => ⟨nx1, T1, Pre.of (fun q k u v w => h1 q k u v (by omega)) (fun i hi => h2 i (by omega)) h, a, b, It_of (fun q u v => h1 q _ u v (by omega)) h2 c⟩
theorem Go.pre {N F S : Nat} {x z y w : XS} {cf cg : Nat → Int32} {p c e o p' c' e' o' d' n pl nx : Nat} {T T' : List Bool} (h : Go N F S x z cf p c e o y w cg p' c' e' o' d') (hc : pl + n ≤ c) (g : Pre x cf F S n pl nx T e T') : Pre y cg F S n pl nx T e T' :=
  Pre.of (fun q k a b k1 => h.fr.2.2.1 q k a b (by omega)) (fun i hi => h.fr.2.2.2.2.2.2.1 i hi) g
def Ok (b : Bool) (N F S : Nat) (x z : XS) (cf : Nat → Int32) (p c e o d : Nat) (y w : XS) : Prop :=
  ∃ cg p' n e' o', p < p' ∧ n + p ≤ p' ∧ e' + 2 * p ≤ e + 2 * p' ∧ o' + p ≤ o + p' ∧ Go N F S x z cf p c e o y w cg p' (c + n) e' o' d ∧ (y.1 34 5 = 0 → ∀ T : List Bool, T.length ≤ p → Pre y cg F S n c e T e' (b :: T))
def Re (b : Bool) (N F S : Nat) (x z : XS) (cf : Nat → Int32) (p c e o d : Nat) (C : Bool × XS) (G : Option (Bool × XS)) : Prop :=
  (∃ w, G = some (false, w) ∧ C.1 = false ∧ Fl N x z C.2 w) ∨ (∃ w, G = some (true, w) ∧ C.1 = true ∧ Ok b N F S x z cf p c e o d C.2 w)
def Sm (b : Bool) (C : XS → Bool × XS) (G : XS → Option (Bool × XS)) (N F S d : Nat) : Prop :=
  ∀ x z cf p c e o, St N F S x z cf p c e o d → c ≤ p → e ≤ 2 * p → o ≤ p → Re b N F S x z cf p c e o d (C x) (G z)
theorem chain {b : Bool} {N F S d : Nat} {R : XS → Bool × XS} {P : XS → Option (Bool × XS)} (hR : Sm b R P N F S d) {CC : Nat → XS → Bool × XS} {GG : Nat → XS → Option (Bool × XS)} (ops : Int32 → Option Int32)
    (hb : ∀ k v, ops k = some v → (k, v, b, b) ∈ bins ∧ k ≠ 260 ∧ k ≠ 261)
    (hC0 : ∀ x, CC 0 x = (true, x))
    (hC1 : ∀ n x v, ops (curK x) = some v → CC (n + 1) x = if (R (adv x)).1 then CC n (addCoF (R (adv x)).2 (curK x) 0 0) else (false, (R (adv x)).2))
    (hC2 : ∀ n x, ops (curK x) = none → CC (n + 1) x = (true, x))
    (hG1 : ∀ n z p a v, z.1 0 9 = nI p → p < 401 → (a, z.1 2 p) ∈ KM → ops a = some v → GG (n + 1) z = ob (P (setI z 0 9 (nI (p + 1)))) (fun u => if b2i u.1 = 0 then some (false, u.2) else ob (f_X10_put v u.2) (fun y => GG n y)))
    (hG2 : ∀ n z p a, z.1 0 9 = nI p → p < 401 → (a, z.1 2 p) ∈ KM → ops a = none → GG (n + 1) z = some (true, z))
    {x0 z0 : XS} {cf0 : Nat → Int32} {p0 c0 e0 o0 : Nat} (hc0 : c0 ≤ p0) (he0 : e0 ≤ 2 * p0) (ho0 : o0 ≤ p0) :
    ∀ (fg fc : Nat) (x z : XS) (cf : Nat → Int32) (p n e o : Nat), p0 < p → n + p0 ≤ p → e + 2 * p0 ≤ e0 + 2 * p → o + p0 ≤ o0 + p → Go N F S x0 z0 cf0 p0 c0 e0 o0 x z cf p (c0 + n) e o d → (x.1 34 5 = 0 → ∀ T : List Bool, T.length ≤ p0 → Pre x cf F S n c0 e0 T e (b :: T)) → 400 ≤ fc + p → 402 ≤ fg + p →
      Re b N F S x0 z0 cf0 p0 c0 e0 o0 d (CC fc x) (GG fg z)
  | 0, fc, x, z, cf, p, n, e, o, _, _, _, _, hgo, _, _, h8 => by have := hgo.st.N; omega
  | fg + 1, fc, x, z, cf, p, n, e, o, h1, h2, h3, h4, hgo, hpre, h7, h8 => by
    have hs := hgo.st
    have hN := hs.N
    cases ho : ops (curK x) with
    | none =>
      have e1 : CC fc x = (true, x) := by
        cases fc with
        | zero => exact hC0 x
        | succ m => exact hC2 m x ho
      rw [e1, hG2 fg z p (curK x) hs.z9 (by omega) (by rw [hs.ck]; exact hs.km) ho]
      exact Or.inr ⟨z, rfl, rfl, cf, p, n, e, o, h1, h2, h3, h4, hgo, hpre⟩
    | some v =>
      obtain ⟨b1, b2, b3⟩ := hb _ _ ho
      have hp1 : p + 1 < N := hs.nx rfl b2 b3
      cases fc with
      | zero => omega
      | succ m =>
        have ha := st_adv hs hp1
        rw [hC1 m x v ho, hG1 fg z p (curK x) v hs.z9 (by omega) (by rw [hs.ck]; exact hs.km) ho]
        rcases hR (adv x) (setI z 0 9 (nI (p + 1))) cf (p + 1) (c0 + n) e o ha.st (by omega) (by omega) (by omega) with ⟨w, g1, g2, g3⟩ | ⟨w, g1, g2, cg, p', n', e', o', k1, k2, k3, k4, k5, k6⟩
        · rw [g1, ob_some1, if_pos (b2i_f rfl), g2, if_neg (by decide)]
          exact Or.inl ⟨w, rfl, rfl, g3.after (hgo.trans ha).fr.wf⟩
        · rw [g1, ob_some1, if_neg (b2i_n rfl), g2, if_pos rfl]
          have hs2 := k5.st
          have hN2 := hs2.N
          obtain ⟨q1, q2⟩ := st_co hs2 (show c0 + n + n' < 400 by omega) (curK x) 0 0
          obtain ⟨r1, r2⟩ := st_put q2.st (show e' < 800 by omega) v
          rw [q1, r1, ob_some1]
          have hall := ((hgo.trans ha).trans k5).trans (q2.trans r2)
          refine chain hR ops hb hC0 hC1 hC2 hG1 hG2 hc0 he0 ho0 fg m _ _ _ p' (n + n' + 1) (e' + 1) o' (by omega) (by omega) (by omega) (by omega) (by rw [show c0 + (n + n' + 1) = c0 + n + n' + 1 by omega]; exact hall) (fun h5 T hT => ?_) (by omega) (by omega)
          have f2 : (R (adv x)).2.1 34 5 = 0 := (q2.trans r2).fr.2.2.2.2.2.2.2 h5
          have f1 : x.1 34 5 = 0 := (ha.trans k5).fr.2.2.2.2.2.2.2 f2
          have t1 := (ha.trans (k5.trans (q2.trans r2))).pre (Nat.le_refl _) (hpre f1 T hT)
          have t2 := (q2.trans r2).pre (Nat.le_refl _) (k6 f2 (b :: T) (by show T.length + 1 ≤ p + 1; omega))
          refine (t1.app t2).app (Pre.one (Or.inr (Or.inr (Or.inr (Or.inr (Or.inr (Or.inr (Or.inr (Or.inr (Or.inr (Or.inr ⟨b, b, T, ?_, rfl, rfl, rfl⟩)))))))))) (by omega) (by show T.length + 1 ≤ 400; omega))
          have v1 := (coS_v (R (adv x)).2 (c0 + n + n') (curK x) 0 0).1
          have v2 : (zs (updF cg e' v)).1 19 e' = v := if_pos rfl
          rw [v2, ← Nat.add_assoc]
          show ((coS (R (adv x)).2 (c0 + n + n') (curK x) 0 0).1 18 (c0 + n + n'), v, b, b) ∈ bins
          rw [v1]; exact b1
