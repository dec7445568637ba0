/-! Lines: what the second reading makes, as a function of roles -/
def eff (ρ K : Nat → Int32) (V : Nat → Int64) (j : Nat) (w : XS) : XS :=
  if ρ j = 2 then setI w 22 (cn ρ 2 j) (K (j - 1))
  else if ρ j = 3 then
    (if (setI (setI w 6 j (tl ρ V 1 (V j) j)) 23 (cn ρ 2 j - 1) (2 * tl ρ V 1 (V j) j + (if K (j + 1) = 11 then 1 else 0))).1 22 (cn ρ 2 j - 1) = 9
     then setI (setI (setI w 6 j (tl ρ V 1 (V j) j)) 23 (cn ρ 2 j - 1) (2 * tl ρ V 1 (V j) j + (if K (j + 1) = 11 then 1 else 0))) 24 (cn ρ 2 j - 1) (2 * tl ρ V 1 (V j) j + (if K (j + 1) = 11 then 1 else 0))
     else setI (setI w 6 j (tl ρ V 1 (V j) j)) 23 (cn ρ 2 j - 1) (2 * tl ρ V 1 (V j) j + (if K (j + 1) = 11 then 1 else 0)))
  else if ρ j = 4 then setI (setI w 6 j (tl ρ V 1 (V j) j)) 24 (cn ρ 2 j - 1) (2 * tl ρ V 1 (V j) j + (if K (j + 1) = 11 then 1 else 0))
  else if ρ j = 5 then setI w 25 (cn ρ 5 j) (K j)
  else if ρ j = 6 then setI (setI w 6 j (tl ρ V 2 (V j) j)) 26 (cn ρ 5 j - 1) (tl ρ V 2 (V j) j)
  else if ρ j = 7 then setI w 6 j (tl ρ V 1 (V j) j)
  else if ρ j = 8 then setI w 6 j (tl ρ V 2 (V j) j)
  else w
def O0 : XS := (fun _ _ => 0, fun _ _ => 0)
def p2 (ρ K : Nat → Int32) (V : Nat → Int64) : Nat → XS
  | 0 => O0
  | j + 1 => eff ρ K V j (p2 ρ K V j)
theorem p2_1 (ρ K : Nat → Int32) (V : Nat → Int64) (j : Nat) : p2 ρ K V (j + 1) = eff ρ K V j (p2 ρ K V j) := rfl
theorem eff_cong {ρ σ K : Nat → Int32} {V : Nat → Int64} {j : Nat} {w : XS} (h : ∀ i, i ≤ j → σ i = ρ i) : eff σ K V j w = eff ρ K V j w := by
  unfold eff
  rw [h j (Nat.le_refl _), tl_cong (fun i hi => h i (by omega)) (fun _ => rfl), tl_cong (fun i hi => h i (by omega)) (fun _ => rfl), cn_cong (fun i hi => h i (by omega)), cn_cong (fun i hi => h i (by omega))]
theorem p2_cong {ρ σ K : Nat → Int32} {V : Nat → Int64} : ∀ {p : Nat}, (∀ i, i < p → σ i = ρ i) → p2 σ K V p = p2 ρ K V p
  | 0, _ => rfl
  | p + 1, h => by rw [p2_1, p2_1, p2_cong (fun i hi => h i (by omega)), eff_cong (fun i hi => h i (by omega))]
theorem eff0 {ρ K : Nat → Int32} {V : Nat → Int64} {j : Nat} {w : XS} (h : ρ j = 0 ∨ ρ j = 1) : eff ρ K V j w = w := by
  unfold eff
  rcases h with h | h <;> rw [h, if_neg (by decide), if_neg (by decide), if_neg (by decide), if_neg (by decide), if_neg (by decide), if_neg (by decide), if_neg (by decide)]
theorem eff78 {ρ K : Nat → Int32} {V : Nat → Int64} {j : Nat} {w : XS} (h : ρ j = 0 ∨ ρ j = 7 ∨ ρ j = 8) {q k : Nat} (hq : q ≠ 6) : (eff ρ K V j w).1 q k = w.1 q k := by
  rcases h with h | h | h
  · rw [eff0 (Or.inl h)]
  · unfold eff; rw [h, if_neg (by decide), if_neg (by decide), if_neg (by decide), if_neg (by decide), if_neg (by decide), if_pos rfl, rdI_ne hq]
  · unfold eff; rw [h, if_neg (by decide), if_neg (by decide), if_neg (by decide), if_neg (by decide), if_neg (by decide), if_neg (by decide), if_pos rfl, rdI_ne hq]
theorem p2_over {ρ K : Nat → Int32} {V : Nat → Int64} {p : Nat} {q k : Nat} (hq : q ≠ 6) : ∀ (n : Nat), (∀ j, p ≤ j → j < p + n → ρ j = 0 ∨ ρ j = 7 ∨ ρ j = 8) → (p2 ρ K V (p + n)).1 q k = (p2 ρ K V p).1 q k
  | 0, _ => rfl
  | n + 1, h => by
    rw [show p + (n + 1) = p + n + 1 from rfl, p2_1, eff78 (h _ (by omega) (by omega)) hq, p2_over hq n (fun j a b => h j a (by omega))]
theorem p2_skip {ρ K : Nat → Int32} {V : Nat → Int64} {p p' : Nat} (hp : p ≤ p') (h : ∀ j, p ≤ j → j < p' → ρ j = 0 ∨ ρ j = 7 ∨ ρ j = 8) {q k : Nat} (hq : q ≠ 6) : (p2 ρ K V p').1 q k = (p2 ρ K V p).1 q k := by
  obtain ⟨n, rfl⟩ := Nat.le.dest hp
  exact p2_over hq n h
/-- the state of both readings but for what is told -/
def Sb (N : Nat) (x z : XS) (cf : Nat → Int32) (p c e o d : Nat) : Prop :=
  TokR x z N ∧ p < N ∧ x.1 34 4 = nI p ∧ z.1 0 9 = nI p ∧ (∀ t, p ≤ t → t < N → z.1 5 t = 0) ∧ x.1 8 12 = nI c ∧ z.1 21 12 = nI e ∧ z.1 21 14 = nI o ∧ z.1 0 10 = nI d ∧ CF z (x.2 7) cf e o p ∧ RoK (z.1 5) (x.1 5) p
theorem St.sb {N F S : Nat} {x z : XS} {cf : Nat → Int32} {p c e o d : Nat} (h : St N F S x z cf p c e o d) : Sb N x z cf p c e o d ∧ Md x (z.1 5) (x.2 7) p (FamL x (z.1 5) (x.2 7) p F ∧ StmL x (z.1 5) (x.2 7) p S) := by
  obtain ⟨a1, a2, a3, a4, a5, a6, a7, a8, a9, a10, a11, a12⟩ := h
  exact ⟨⟨a1, a2, a3, a4, a5, a6, a7, a8, a9, a10, a11⟩, a12⟩
theorem Sb.st {N F S : Nat} {x z : XS} {cf : Nat → Int32} {p c e o d : Nat} (h : Sb N x z cf p c e o d) (g : Md x (z.1 5) (x.2 7) p (FamL x (z.1 5) (x.2 7) p F ∧ StmL x (z.1 5) (x.2 7) p S)) : St N F S x z cf p c e o d := by
  obtain ⟨a1, a2, a3, a4, a5, a6, a7, a8, a9, a10, a11⟩ := h
  exact ⟨a1, a2, a3, a4, a5, a6, a7, a8, a9, a10, a11, g⟩
theorem Sb.N {N : Nat} {x z : XS} {cf : Nat → Int32} {p c e o d : Nat} (h : Sb N x z cf p c e o d) : p < N ∧ N ≤ 401 := ⟨h.2.1, h.1.2.1⟩
theorem Sb.ck {N : Nat} {x z : XS} {cf : Nat → Int32} {p c e o d : Nat} (h : Sb N x z cf p c e o d) : curK x = x.1 5 p := curK_ok h.1 h.2.1 h.2.2.1
theorem Sb.km {N : Nat} {x z : XS} {cf : Nat → Int32} {p c e o d : Nat} (h : Sb N x z cf p c e o d) : (x.1 5 p, z.1 2 p) ∈ KM := (h.1.2.2.2.1 p h.2.1).1
theorem Sb.kz {N : Nat} {x z : XS} {cf : Nat → Int32} {p c e o d : Nat} (h : Sb N x z cf p c e o d) (a b : Int32) (hab : (a, b) ∈ KM) : curK x = a ↔ z.1 2 p = b := by rw [h.ck]; exact km_iff h.km hab
theorem Sb.nx {N : Nat} {x z : XS} {cf : Nat → Int32} {p c e o d : Nat} (h : Sb N x z cf p c e o d) {a : Int32} (hk : curK x = a) (h1 : a ≠ 260) (h2 : a ≠ 261) : p + 1 < N := by rw [h.ck] at hk; exact tok_end h.1 h.2.1 (by rw [hk]; exact h1) (by rw [hk]; exact h2)
theorem Sb.z9 {N : Nat} {x z : XS} {cf : Nat → Int32} {p c e o d : Nat} (h : Sb N x z cf p c e o d) : z.1 0 9 = nI p := h.2.2.2.1
/-- the reference takes a token and gives it a role -/
def rl (z : XS) (p : Nat) (r : Int32) : XS := setI (setI z 5 p r) 0 9 (nI (p + 1))
theorem rl_n {z : XS} {p : Nat} {r : Int32} {q k : Nat} (h1 : ¬ (q = 5 ∧ k = p)) (h2 : ¬ (q = 0 ∧ k = 9)) : (rl z p r).1 q k = z.1 q k := by
  unfold rl; rw [rdI, if_neg h2, rdI, if_neg h1]
theorem rl_5 (z : XS) (p : Nat) (r : Int32) : (rl z p r).1 5 p = r := by unfold rl; rw [rdI_ne (by decide), rdI_eq]
theorem rl_0 {z : XS} {p : Nat} {r : Int32} (h : z.1 5 p = r) : rl z p r = setI z 0 9 (nI (p + 1)) := by unfold rl; rw [set_same h]
/-- both take a token; it gets a role -/
theorem sb_step {N : Nat} {x z y : XS} {cf : Nat → Int32} {p c e o d : Nat} (h : Sb N x z cf p c e o d) (hp : p + 1 < N) (r : Int32) (y3 : ∀ q k, q = 3 ∨ q = 5 ∨ q = 6 → y.1 q k = x.1 q k) (y7 : ∀ k, y.2 7 k = x.2 7 k) (y4 : y.1 34 4 = nI (p + 1)) (y8 : y.1 8 12 = nI c)
    (hr : (r = 3 ∨ r = 4 → 0 < cn (z.1 5) 2 p) ∧ (r = 6 → 0 < cn (z.1 5) 5 p) ∧ (r = 1 ∨ r = 2 ∨ r = 3 ∨ r = 4 ∨ r = 6 ∨ r = 7 ∨ r = 8 → x.1 5 p = 258) ∧ (r = 2 → 0 < p)) : Sb N y (rl z p r) cf (p + 1) c e o d := by
  obtain ⟨hT, hpN, hx, hz, hrr, hc, he, ho, hd, hcf, hro⟩ := h
  have h5 : ∀ j, j ≠ p → (rl z p r).1 5 j = z.1 5 j := fun j hj => rl_n (by omega) (by omega)
  have e7 : y.2 7 = x.2 7 := funext y7
  have e5 : y.1 5 = x.1 5 := funext fun k => y3 5 k (by simp)
  refine ⟨?_, hp, y4, ?_, ?_, y8, ?_, ?_, ?_, ?_, ?_⟩
  · exact TokR_of y3 y7 (fun q k a b => rl_n (by omega) (by omega)) hT
  · unfold rl; exact rdI_eq
  · intro t a b; rw [h5 t (by omega)]; exact hrr t (by omega) b
  · rw [rl_n (by omega) (by omega)]; exact he
  · rw [rl_n (by omega) (by omega)]; exact ho
  · rw [rl_n (by omega) (by omega)]; exact hd
  · rw [e7]; exact CF_p (by omega) (fun k => rl_n (by omega) (by omega)) (fun k => rl_n (by omega) (by omega)) (fun j hj => h5 j (by omega)) hcf
  · rw [e5]
    intro j hj
    rcases Nat.lt_or_ge j p with h1 | h1
    · rw [h5 j (by omega), cn_cong (fun i hi => h5 i (by omega)), cn_cong (fun i hi => h5 i (by omega))]; exact hro j h1
    · have hjp : j = p := by omega
      subst hjp
      rw [rl_5, cn_cong (fun i hi => h5 i (by omega)), cn_cong (fun i hi => h5 i (by omega))]; exact hr
theorem r0_ok {a b c d : Prop} : ((0 : Int32) = 3 ∨ (0 : Int32) = 4 → a) ∧ ((0 : Int32) = 6 → b) ∧ ((0 : Int32) = 1 ∨ (0 : Int32) = 2 ∨ (0 : Int32) = 3 ∨ (0 : Int32) = 4 ∨ (0 : Int32) = 6 ∨ (0 : Int32) = 7 ∨ (0 : Int32) = 8 → c) ∧ ((0 : Int32) = 2 → d) :=
  ⟨fun h => absurd h (by decide), fun h => absurd h (by decide), fun h => absurd h (by decide), fun h => absurd h (by decide)⟩
/-- both take a token without a role -/
theorem sb_adv {N : Nat} {x z : XS} {cf : Nat → Int32} {p c e o d : Nat} (h : Sb N x z cf p c e o d) (hp : p + 1 < N) : Sb N (adv x) (setI z 0 9 (nI (p + 1))) cf (p + 1) c e o d := by
  have hx := h.2.2.1
  rw [← rl_0 (h.2.2.2.2.1 p (Nat.le_refl _) h.2.1), adv_x hx]
  exact sb_step h hp 0 (fun q k hq => rdI_ne (by omega)) (fun _ => rfl) rdI_eq (by rw [rdI_ne (by decide)]; exact h.2.2.2.2.2.1) r0_ok
theorem Md_step {x y : XS} {ρ σ : Nat → Int32} {V : Nat → Int64} {p : Nat} {Q Q' : Prop} (h : Md x ρ V p Q) (hσ : ∀ j, j < p → σ j = ρ j) (he : x.1 34 5 ≠ 0 → y.1 34 5 = x.1 34 5 ∧ y.1 34 6 = x.1 34 6)
    (hq : x.1 34 5 = 0 → Q → (er σ V p = 0 ∧ y.1 34 5 = 0 ∧ Q') ∨ (er σ V p ≠ 0 ∧ y.1 34 5 = er σ V p ∧ y.1 34 6 = nI p)) : Md y σ V (p + 1) Q' := by
  rcases h with ⟨a, b, c⟩ | h
  · rcases hq a c with ⟨u, v, w⟩ | ⟨u, v, w⟩
    · refine Or.inl ⟨v, fun j hj => ?_, w⟩
      rcases Nat.lt_or_ge j p with h1 | h1
      · rw [er_cong (fun i hi => hσ i (by omega)) (fun _ => rfl)]; exact b j h1
      · rw [show j = p by omega]; exact u
    · exact Or.inr ⟨p, by omega, w, by rw [v]; exact u, fun j hj => by rw [er_cong (fun i hi => hσ i (by omega)) (fun _ => rfl)]; exact b j hj, v.symm⟩
  · obtain ⟨e5, e6⟩ := he (by obtain ⟨t, -, -, c, -⟩ := h; exact c)
    exact Or.inr (EA_of (by omega) e5 e6 hσ h)
theorem Md_adv {x : XS} {ρ : Nat → Int32} {V : Nat → Int64} {p : Nat} {Q Q' : Prop} (h : Md x ρ V p Q) (hx : x.1 34 4 = nI p) (h0 : ρ p = 0) (hq : Q → Q') : Md (adv x) ρ V (p + 1) Q' := by
  rw [adv_x hx]
  refine Md_step h (fun _ _ => rfl) (fun _ => ⟨rdI_nk (by decide), rdI_nk (by decide)⟩) (fun a b => Or.inl ⟨er0 h0, ?_, hq b⟩)
  rw [rdI_nk (by decide)]; exact a
theorem Md_imp {x : XS} {ρ : Nat → Int32} {V : Nat → Int64} {p : Nat} {Q Q' : Prop} (h : Md x ρ V p Q) (hq : Q → Q') : Md x ρ V p Q' := h.imp (fun ⟨a, b, c⟩ => ⟨a, b, hq c⟩) id
