/-! An order's line -/
theorem orF_n {y : XS} {a b c : Int32} {q k : Nat} (h : ¬ (14 ≤ q ∧ q ≤ 17)) (h2 : ¬ (q = 8 ∧ k = 7)) : (addOrF y a b c).1 q k = y.1 q k := by
  unfold addOrF
  split
  · rfl
  · split
    · rfl
    · rw [rdI, if_neg h2, rdI_ne (by omega), rdI_ne (by omega), rdI_ne (by omega), rdI_ne (by omega)]
theorem orF_2 {y : XS} {a b c : Int32} : (addOrF y a b c).2 = y.2 := by
  unfold addOrF
  split
  · rfl
  · split <;> rfl
theorem orF_v {y : XS} {a b c : Int32} {O : Nat} (h : y.1 8 7 = nI O) (hO : O < 16) : (addOrF y a b c).1 8 7 = nI (O + 1) ∧ (addOrF y a b c).1 14 O = (if a = 0 then 0 else 1) ∧ (addOrF y a b c).1 15 O = b ∧ (addOrF y a b c).1 16 O = c ∧ (addOrF y a b c).1 17 O = y.1 8 12 ∧ ∀ q k, q ≠ 8 → k ≠ O → (addOrF y a b c).1 q k = y.1 q k := by
  have e : addOrF y a b c = setI (setI (setI (setI (setI y 14 O (if a = 0 then 0 else 1)) 15 O b) 16 O c) 17 O (y.1 8 12)) 8 7 (nI (O + 1)) := by
    unfold addOrF
    rw [h, if_neg (nI_nn (by omega)), if_neg (fun (q : (16 : Int32) ≤ nI O) => by have := (nI_leq (a := 16) (by omega) (by omega)).mp q; omega), nI_clamp (by omega), show nI O + 1 = nI (O + 1) from nI_addN O 1]
  rw [e]
  refine ⟨rdI_eq, ?_, ?_, ?_, ?_, fun q k a b => ?_⟩
  · rw [rdI_ne (by decide), rdI_ne (by decide), rdI_ne (by decide), rdI_ne (by decide), rdI_eq]
  · rw [rdI_ne (by decide), rdI_ne (by decide), rdI_ne (by decide), rdI_eq]
  · rw [rdI_ne (by decide), rdI_ne (by decide), rdI_eq]
  · rw [rdI_ne (by decide), rdI_eq]
  · rw [rdI_ne a, rdI_nk b, rdI_nk b, rdI_nk b, rdI_nk b]
theorem Sb_w {N : Nat} {x z w : XS} {cf : Nat → Int32} {p c e o d : Nat} (h : Sb N x z cf p c e o d) (g : ∀ q k, q ≠ 27 → q ≠ 28 → ¬ (q = 21 ∧ k = 6) → w.1 q k = z.1 q k) : Sb N x w cf p c e o d := by
  obtain ⟨a1, a2, a3, a4, a5, a6, a7, a8, a9, a10, a11⟩ := h
  have e5 : w.1 5 = z.1 5 := funext fun k => g 5 k (by decide) (by decide) (by omega)
  refine ⟨TokR_of (fun _ _ _ => rfl) (fun _ => rfl) (fun q k a b => g q k (by omega) (by omega) (by omega)) a1, a2, a3, (g _ _ (by decide) (by decide) (by omega)).trans a4, by rw [e5]; exact a5, a6, (g _ _ (by decide) (by decide) (by omega)).trans a7, (g _ _ (by decide) (by decide) (by omega)).trans a8, (g _ _ (by decide) (by decide) (by omega)).trans a9, ?_, by rw [e5]; exact a11⟩
  exact CF_p (Nat.le_refl _) (fun k => g _ _ (by decide) (by decide) (by omega)) (fun k => g _ _ (by decide) (by decide) (by omega)) (fun j _ => by rw [e5]) a10
theorem Sb_y {N : Nat} {x y z : XS} {cf : Nat → Int32} {p c e o d : Nat} (h : Sb N x z cf p c e o d) (g : ∀ q k, ¬ (9 ≤ q ∧ q ≤ 17) → ¬ (q = 8 ∧ k = 7) → y.1 q k = x.1 q k) (g2 : y.2 = x.2) : Sb N y z cf p c e o d := by
  obtain ⟨a1, a2, a3, a4, a5, a6, a7, a8, a9, a10, a11⟩ := h
  exact ⟨TokR_of (fun q k hq => g q k (by omega) (by omega)) (fun k => by rw [g2]) (fun _ _ _ _ => rfl) a1, a2, (g _ _ (by omega) (by omega)).trans a3, a4, a5, (g _ _ (by omega) (by omega)).trans a6, a7, a8, a9, by rw [g2]; exact a10, by rw [show y.1 5 = x.1 5 from funext fun k => g _ _ (by omega) (by omega)]; exact a11⟩
/-- the order is told -/
theorem or_end {N : Nat} {x z y w : XS} {cf cg : Nat → Int32} {p q c e o n e' o' part : Nat} {rn : Int32} {jj : Int32} (hl : LSt N x z cf p c e o) (hpq : p + 2 ≤ q) (hcn : c + n ≤ q) (hen : e' ≤ 2 * q) (hon : o' ≤ q) (hee : e ≤ e')
    (hb : Sb N y w cg q (c + n) e' o' 0)
    (y1 : ∀ i k, i ≠ 34 → ¬ (18 ≤ i ∧ i ≤ 20) → ¬ (i = 8 ∧ k = 12) → y.1 i k = x.1 i k) (y2 : y.2 = x.2) (y3 : ∀ i k, 18 ≤ i → i ≤ 20 → k < c → y.1 i k = x.1 i k)
    (w1 : ∀ i k, i ≠ 5 → i ≠ 29 → i ≠ 30 → ¬ (i = 0 ∧ (k = 9 ∨ k = 10)) → ¬ (i = 21 ∧ (k = 6 ∨ k = 12 ∨ k = 14)) → ¬ (i = 27 ∧ k = part) → w.1 i k = z.1 i k) (w6 : w.1 21 6 = nI (cn (z.1 5) 5 p + 1)) (w27 : w.1 27 part = nI e)
    (r1 : ∀ j, j < p → w.1 5 j = z.1 5 j) (r2 : w.1 5 p = 5) (r3 : w.1 5 (p + 1) = 6) (r4 : ∀ j, p + 2 ≤ j → j < q → w.1 5 j = 0 ∨ w.1 5 j = 7 ∨ w.1 5 j = 8) (hcg : ∀ i, i < e → cg i = cf i)
    (hrn : (if rn = 0 then (0 : Int32) else 1) = 1 ↔ ¬ z.1 2 p = 12)
    (hm : Md y (w.1 5) (x.2 7) q (((∃ F S O, LQ x z cf p c e F S O ∧ O < 16 ∧ part = O) ∧ ∃ k, k < cn (z.1 5) 2 p ∧ tl (w.1 5) (x.2 7) 2 (x.2 7 (p + 1)) (p + 1) = nI k ∧ jj = nI k) ∧ ((n = 0 ∧ e = e') ∨ (0 < n ∧ Pre y cg (cn (z.1 5) 1 p) (cn (z.1 5) 2 p) n c e [] e' [true])))) :
    LSt N (addOrF y rn jj (nI c)) (setI w 28 part (nI e')) cg q (c + n) e' o' ∧ WF x z (addOrF y rn jj (nI c)) (setI w 28 part (nI e')) := by
  have v5 : (setI w 28 part (nI e')).1 5 = w.1 5 := rowI (by decide)
  have v2 : (setI w 28 part (nI e')).1 2 = z.1 2 := (rowI (by decide)).trans (funext fun k => w1 2 k (by decide) (by decide) (by decide) (by omega) (by omega) (by omega))
  have c5 : cn (w.1 5) 5 q = cn (z.1 5) 5 p + 1 := by
    rw [cn_skip hpq (fun j a b => by rcases r4 j a b with g | g | g <;> rw [g] <;> decide), cn_n (by rw [r3]; decide), cn_y r2, cn_cong r1]
  have c5' : cn (w.1 5) 5 (p + 1) = cn (z.1 5) 5 p + 1 := by rw [cn_y r2, cn_cong r1]
  have ne12 : ∀ j, p ≤ j → j < q → w.1 5 j ≠ 1 ∧ w.1 5 j ≠ 2 := by
    intro j a b
    rcases Nat.lt_or_ge j (p + 2) with g | g
    · rcases Nat.lt_or_ge j (p + 1) with g2 | g2
      · rw [show j = p by omega, r2]; decide
      · rw [show j = p + 1 by omega, r3]; decide
    · rcases r4 j g b with g | g | g <;> rw [g] <;> decide
  have y7 : (addOrF y rn jj (nI c)).2 = x.2 := by rw [orF_2]; exact y2
  have f34 : ∀ k, (addOrF y rn jj (nI c)).1 34 k = y.1 34 k := fun k => orF_n (by omega) (by omega)
  have pe : ∀ i k, i ≠ 6 → (p2 (w.1 5) (z.1 2) (x.2 7) q).1 i k = (setI (setI (p2 (z.1 5) (z.1 2) (x.2 7) p) 25 (cn (z.1 5) 5 p) (z.1 2 p)) 26 (cn (z.1 5) 5 p) (tl (w.1 5) (x.2 7) 2 (x.2 7 (p + 1)) (p + 1))).1 i k := by
    intro i k hi
    rw [p2_skip hpq r4 hi, p2_1, show eff (w.1 5) (z.1 2) (x.2 7) (p + 1) (p2 (w.1 5) (z.1 2) (x.2 7) (p + 1)) = setI (setI (p2 (w.1 5) (z.1 2) (x.2 7) (p + 1)) 6 (p + 1) (tl (w.1 5) (x.2 7) 2 (x.2 7 (p + 1)) (p + 1))) 26 (cn (z.1 5) 5 p) (tl (w.1 5) (x.2 7) 2 (x.2 7 (p + 1)) (p + 1)) by
      unfold eff
      rw [r3, if_neg (by decide), if_neg (by decide), if_neg (by decide), if_neg (by decide), if_pos rfl, c5']; rfl]
    rw [p2_1, show eff (w.1 5) (z.1 2) (x.2 7) p (p2 (w.1 5) (z.1 2) (x.2 7) p) = setI (p2 (z.1 5) (z.1 2) (x.2 7) p) 25 (cn (z.1 5) 5 p) (z.1 2 p) by
      unfold eff
      rw [r2, if_neg (by decide), if_neg (by decide), if_neg (by decide), if_pos rfl, cn_cong r1, p2_cong r1]]
    rw [rdI, rdI_ne hi]; rfl
  refine ⟨⟨Sb_y (Sb_w hb (fun q k a b _ => rdI_ne b)) (fun q k a b => orF_n (by omega) b) orF_2, hcn, hen, hon, ?_, ?_⟩, ?_⟩
  · rw [rdI_ne (by decide), v5, c5]; exact w6
  · rw [v5, y7]
    have hm2 := hm.imp (c := (addOrF y rn jj (nI c)).1 34 5 = 0 ∧ (∀ j, j < q → er (w.1 5) (x.2 7) j = 0) ∧ _) (d := EA (addOrF y rn jj (nI c)) (w.1 5) (x.2 7) q) (fun ⟨a, b, g⟩ => ⟨by rw [f34]; exact a, b, g⟩) (fun g => EA_of (Nat.le_refl _) (f34 _) (f34 _) (fun _ _ => rfl) g)
    refine Md_imp hm2 ?_
    rintro ⟨⟨⟨F, S, O, ⟨q1, q2, ⟨q3, q4, q5⟩, q6, q7⟩, s1, rfl⟩, t, t1, t2, t3⟩, hpre⟩
    have hF := q1.1
    have hS := q2.1
    rw [hS] at t1
    rw [hF, hS] at hpre
    rw [q3] at pe c5
    have hy8 : y.1 8 7 = nI part := (y1 8 7 (by decide) (by omega) (by omega)).trans q5
    obtain ⟨u1, u2, u3, u4, u5, u6⟩ := orF_v (a := rn) (b := jj) (c := nI c) hy8 s1
    refine ⟨F, S, part + 1, ?_, ?_, ⟨by rw [v5]; exact c5, by omega, u1⟩, ?_, ?_⟩
    · rw [v5, y7]
      exact FamL_of (by omega) (by rw [orF_n (by omega) (by omega)]; exact y1 _ _ (by decide) (by omega) (by omega)) (fun k => by rw [y7]) r1 (fun j a b => (ne12 j a b).1) q1
    · rw [v5, y7]
      exact StmL_of (by omega) (by rw [orF_n (by omega) (by omega)]; exact y1 _ _ (by decide) (by omega) (by omega)) (fun k => by rw [y7]) r1 (fun j a b => (ne12 j a b).2) q2
    · rw [v5, y7, v2]
      exact Cst_of (Nat.le_refl _) (fun i k a b _ => by rw [orF_n (by omega) (by omega)]; exact y1 i k (by omega) (by omega) (by omega)) (fun i k a b _ => by rw [pe i k (by omega), rdI_ne (by omega), rdI_ne (by omega)]) q6
    · rw [v5, y7, v2]
      intro k hk
      rcases Nat.lt_or_ge k part with g | g
      · refine Cor_of (O := part) (Nat.le_refl _) (Nat.le_refl _) (show c ≤ c + n by omega) hee (fun i k a b h => ?_) (fun i k a b h => ?_) hcg (fun i k a h => ?_) (fun i k a h => ?_) q7 k g
        · rw [u6 i k (by omega) (by omega)]; exact y1 i k (by omega) (by omega) (by omega)
        · rw [orF_n (by omega) (by omega)]; exact y3 i k a b h
        · rw [rdI, if_neg (by omega)]; exact w1 i k (by omega) (by omega) (by omega) (by omega) (by omega) (by omega)
        · rw [pe i k (by omega), rdI, if_neg (by omega), rdI, if_neg (by omega)]
      · have hkp : k = part := by omega
        subst hkp
        refine ⟨c, n, e, e', t, u4, ?_, Nat.le_refl _, ?_, ?_, hee, Nat.le_refl _, ?_, t1, u3.trans t3, ?_, ?_⟩
        · rw [u5]; exact hb.2.2.2.2.2.1
        · rw [rdI_ne (by decide)]; exact w27
        · exact rdI_eq
        · exact hpre.imp id (fun ⟨g1, g2⟩ => ⟨g1, Pre.of (fun i j a b _ => orF_n (by omega) (by omega)) (fun _ _ => rfl) g2⟩)
        · rw [pe _ _ (by decide), rdI_eq]; exact t2
        · rw [u2, pe _ _ (by decide), rdI_ne (by decide), rdI_eq]; exact hrn
  · refine ⟨fun i k a b => ?_, fun i k _ _ => by rw [y7], fun i k a b d f => ?_⟩
    · rw [orF_n (by omega) (by omega)]; exact y1 i k a (by omega) (by omega)
    · rw [rdI_ne (by omega)]; exact w1 i k a (by omega) (by omega) d (by omega) (by omega)
