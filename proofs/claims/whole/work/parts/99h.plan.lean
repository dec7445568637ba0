/-! All lines, in both -/
theorem lst_adv {N : Nat} {x z : XS} {cf : Nat → Int32} {p c e o : Nat} (h : LSt N x z cf p c e o) (hp : p + 1 < N) : LSt N (adv x) (setI z 0 9 (nI (p + 1))) cf (p + 1) c e o := by
  obtain ⟨hb, hc, he, ho, h6, hm⟩ := h
  have hx := hb.2.2.1
  have r0 : z.1 5 p = 0 := hb.2.2.2.2.1 p (Nat.le_refl _) hb.2.1
  have e5 : (setI z 0 9 (nI (p + 1))).1 5 = z.1 5 := rowI (by decide)
  have e2 : (setI z 0 9 (nI (p + 1))).1 2 = z.1 2 := rowI (by decide)
  have ax : ∀ q k, q ≠ 34 → (adv x).1 q k = x.1 q k := fun q k a => by rw [adv_x hx, rdI_ne a]
  have hr : ∀ j, p ≤ j → j < p + 1 → z.1 5 j = 0 := fun j a b => by rw [show j = p by omega]; exact r0
  refine ⟨sb_adv hb hp, by omega, by omega, by omega, ?_, ?_⟩
  · rw [rdI_ne (by decide), e5, cn_n (by rw [r0]; decide)]; exact h6
  · rw [e5]
    refine Md_adv hm hx r0 ?_
    rintro ⟨F, S, O, q1, q2, ⟨q3, q4, q5⟩, q6, q7⟩
    refine ⟨F, S, O, ?_, ?_, ⟨by rw [e5, cn_n (by rw [r0]; decide)]; exact q3, q4, (ax _ _ (by decide)).trans q5⟩, ?_, ?_⟩
    · rw [e5]; exact FamL_of (by omega) (ax _ _ (by decide)) (fun _ => rfl) (fun _ _ => rfl) (fun j a b => by rw [hr j a b]; decide) q1
    · rw [e5]; exact StmL_of (by omega) (ax _ _ (by decide)) (fun _ => rfl) (fun _ _ => rfl) (fun j a b => by rw [hr j a b]; decide) q2
    · rw [e5, e2, p2_1, eff0 (Or.inl r0)]
      exact Cst_of (Nat.le_refl _) (fun q k a b _ => ax q k (by omega)) (fun _ _ _ _ _ => rfl) q6
    · rw [e5, e2, p2_1, eff0 (Or.inl r0)]
      exact Cor_of (Nat.le_refl _) (Nat.le_refl _) (Nat.le_refl _) (Nat.le_refl _) (fun q k a b _ => ax q k (by omega)) (fun q k a b _ => ax q k (by omega)) (fun _ _ => rfl) (fun q k a _ => rdI_ne (by omega)) (fun _ _ _ _ => rfl) q7
def lnG (z : XS) (n : Nat) : Option (Bool × XS) := ob (f_X10_is 0 z) (fun u12 => (if (b2i u12.1) = 0 then ob (f_X10_is 12 u12.2) (fun u28 => (if (b2i u28.1) = 0 then ob (f_X10_is 13 u28.2) (fun u37 => (if (b2i u37.1) = 0 then ob (f_X10_isStatementLine u37.2) (fun u51 => (if (b2i u51.1) = 0 then some (false, u51.2) else ob (f_X10_eatSign 59 u51.2) (fun u62 => (if (b2i u62.1) = 0 then some (false, u62.2) else (f_X10_isPlan_L0   n  u62.2))))) else ob (f_X10_isOrder u37.2) (fun u44 => (if (b2i u44.1) = 0 then some (false, u44.2) else ob (f_X10_eatSign 59 u44.2) (fun u62 => (if (b2i u62.1) = 0 then some (false, u62.2) else (f_X10_isPlan_L0   n  u62.2))))))) else ob (f_X10_isOrder u28.2) (fun u44 => (if (b2i u44.1) = 0 then some (false, u44.2) else ob (f_X10_eatSign 59 u44.2) (fun u62 => (if (b2i u62.1) = 0 then some (false, u62.2) else (f_X10_isPlan_L0   n  u62.2))))))) else ob (f_X10_isFamily u12.2) (fun u19 => (if (b2i u19.1) = 0 then some (false, u19.2) else ob (f_X10_eatSign 59 u19.2) (fun u62 => (if (b2i u62.1) = 0 then some (false, u62.2) else (f_X10_isPlan_L0   n  u62.2)))))))
def enG (G : Option (Bool × XS)) (n : Nat) : Option (Bool × XS) := ob G (fun u51 => (if (b2i u51.1) = 0 then some (false, u51.2) else ob (f_X10_eatSign 59 u51.2) (fun u62 => (if (b2i u62.1) = 0 then some (false, u62.2) else (f_X10_isPlan_L0   n  u62.2)))))
theorem ln_all {N : Nat} {x z : XS} {cf : Nat → Int32} {p c e o : Nat} (h : LSt N x z cf p c e o) (n : Nat) : ∃ G, lnG z n = enG G n ∧ Ln N x z p (lineU x) G := by
  have hb := h.1
  have hN := hb.N
  have z9 := hb.z9
  have hp : p < 401 := by omega
  have nk : ∀ a b, (a, b) ∈ KM → curK x ≠ a → z.1 2 p ≠ b := fun a b m h q => h ((hb.kz a b m).mpr q)
  have hs := stG_eq z9 hp rfl
  unfold lnG
  by_cases h1 : curK x = 300
  · have e1 : lineU x = famU x := by unfold lineU; dsimp only; rw [h1, if_pos rfl]
    rw [is_t z9 hp ((hb.kz 300 0 (by decide)).mp h1), obT, e1]
    exact ⟨_, rfl, ln_family h h1⟩
  rw [is_f z9 hp (nk 300 0 (by decide) h1), obF]
  dsimp only
  by_cases h2 : curK x = 312
  · have e1 : lineU x = ordrU x := by unfold lineU; dsimp only; rw [h2, if_neg (by decide), if_neg (by decide), if_neg (by decide), if_neg (by decide), if_neg (by decide), if_pos rfl]
    rw [is_t z9 hp ((hb.kz 312 12 (by decide)).mp h2), obT, e1]
    exact ⟨_, rfl, ln_order h (Or.inl h2)⟩
  rw [is_f z9 hp (nk 312 12 (by decide) h2), obF]
  dsimp only
  by_cases h3 : curK x = 313
  · have e1 : lineU x = ordrU x := by unfold lineU; dsimp only; rw [h3, if_neg (by decide), if_neg (by decide), if_neg (by decide), if_neg (by decide), if_neg (by decide), if_neg (by decide), if_pos rfl]
    rw [is_t z9 hp ((hb.kz 313 13 (by decide)).mp h3), obT, e1]
    exact ⟨_, rfl, ln_order h (Or.inr h3)⟩
  rw [is_f z9 hp (nk 313 13 (by decide) h3), obF]
  dsimp only
  refine ⟨_, rfl, ?_⟩
  by_cases h4 : curK x = 301
  · have q := (hb.kz 301 1 (by decide)).mp h4
    have e1 : lineU x = stmU x 0 302 303 := by unfold lineU; dsimp only; rw [h4, if_neg (by decide), if_pos rfl]
    rw [e1, hs.1 q]
    exact ln_stm h h4 q (by decide) (by decide) (Or.inl ⟨rfl, rfl⟩) (Or.inr ⟨2, by decide, rfl, by decide⟩) (Or.inr ⟨3, by decide, rfl, by decide⟩)
  by_cases h5 : curK x = 304
  · have q := (hb.kz 304 4 (by decide)).mp h5
    have e1 : lineU x = stmU x 1 305 306 := by unfold lineU; dsimp only; rw [h5, if_neg (by decide), if_neg (by decide), if_pos rfl]
    rw [e1, hs.2.1 q]
    exact ln_stm h h5 q (by decide) (by decide) (Or.inr (Or.inl ⟨rfl, rfl⟩)) (Or.inr ⟨5, by decide, rfl, by decide⟩) (Or.inr ⟨6, by decide, rfl, by decide⟩)
  by_cases h6 : curK x = 307
  · have q := (hb.kz 307 7 (by decide)).mp h6
    have e1 : lineU x = stmU x 2 263 308 := by unfold lineU; dsimp only; rw [h6, if_neg (by decide), if_neg (by decide), if_neg (by decide), if_pos rfl]
    rw [e1, hs.2.2.1 q]
    exact ln_stm h h6 q (by decide) (by decide) (Or.inr (Or.inr (Or.inl ⟨rfl, rfl⟩))) (Or.inl ⟨rfl, rfl⟩) (Or.inr ⟨8, by decide, rfl, by decide⟩)
  by_cases h7 : curK x = 309
  · have q := (hb.kz 309 9 (by decide)).mp h7
    have e1 : lineU x = stmU x 3 263 263 := by unfold lineU; dsimp only; rw [h7, if_neg (by decide), if_neg (by decide), if_neg (by decide), if_neg (by decide), if_pos rfl]
    rw [e1, hs.2.2.2.1 q]
    exact ln_stm h h7 q (by decide) (by decide) (Or.inr (Or.inr (Or.inr ⟨rfl, rfl⟩))) (Or.inl ⟨rfl, rfl⟩) (Or.inl ⟨rfl, rfl, rfl⟩)
  have e1 : lineU x = (false, x) := by
    unfold lineU
    dsimp only
    rw [if_neg h1, if_neg h4, if_neg h5, if_neg h6, if_neg h7, if_neg h2, if_neg h3]
  rw [e1, hs.2.2.2.2 (nk 301 1 (by decide) h4) (nk 304 4 (by decide) h5) (nk 307 7 (by decide) h6) (nk 309 9 (by decide) h7)]
  exact Or.inl ⟨z, rfl, rfl, hb.fl (WF.refl x z)⟩
def Pl (N : Nat) (x z : XS) (C : Bool × XS) (G : Option (Bool × XS)) : Prop :=
  (∃ w, G = some (false, w) ∧ (C.1 && nextB C.2 260) = false ∧ Fl N x z C.2 w) ∨ (∃ w cg p' c' e' o', G = some (true, w) ∧ (C.1 && nextB C.2 260) = true ∧ LSt N C.2 w cg p' c' e' o' ∧ WF x z C.2 w ∧ curK C.2 = 260)
theorem plan_ok {N : Nat} : ∀ (n m : Nat) (x z : XS) (cf : Nat → Int32) (p c e o : Nat), LSt N x z cf p c e o → 800 ≤ 2 * n + p → 800 ≤ 2 * m + p → Pl N x z (planL n x) (f_X10_isPlan_L0 m z)
  | 0, _, _, _, _, p, _, _, _, h, g, _ => by have := h.1.N; omega
  | _, 0, _, _, _, p, _, _, _, h, _, g => by have := h.1.N; omega
  | n + 1, m + 1, x, z, cf, p, c, e, o, h, hn, hm => by
    have hb := h.1
    have hN := hb.N
    have z9 := hb.z9
    rw [planL, f_X10_isPlan_L0]
    by_cases h0 : curK x = 260
    · rw [is_t z9 (by omega) ((hb.kz 260 900 (by decide)).mp h0), obT, if_pos (next_t h0)]
      exact Or.inr ⟨z, cf, p, c, e, o, rfl, by show (true && nextB x 260) = true; rw [next_t h0]; rfl, h, WF.refl x z, h0⟩
    · rw [is_f z9 (by omega) (fun q => h0 ((hb.kz 260 900 (by decide)).mpr q)), obF, if_neg (by rw [next_f h0]; decide)]
      dsimp only
      obtain ⟨G, e1, e2⟩ := ln_all h m
      have e1' := e1
      unfold lnG at e1'
      rw [e1']
      clear e1 e1'
      unfold enG
      rcases e2 with ⟨w, g1, g2, g3⟩ | ⟨w, cg, p', c', e', o', g1, g2, g3, g4, g5⟩
      · rw [g1, obF, if_neg (by rw [g2]; decide)]
        exact Or.inl ⟨w, rfl, rfl, g3⟩
      · have hb' := g4.1
        have hN' := hb'.N
        rw [g1, obT, if_pos g2, eatSign_eq]
        by_cases h9 : curK (lineU x).2 = 59
        · have hp' := hb'.nx h9 (by decide) (by decide)
          rw [eat_t (v := 50 + 59) hb'.z9 (by omega) ((hb'.kz 59 109 (by decide)).mp h9), obT, take_t h9]
          dsimp only
          rw [if_pos rfl]
          have hwf := g5.trans (WF.adv (z := w) (p' := p' + 1) hb'.2.2.1)
          rcases plan_ok n m _ _ _ _ _ _ _ (lst_adv g4 hp') (by omega) (by omega) with ⟨v, k1, k2, k3⟩ | ⟨v, cg', q, c2, e2, o2, k1, k2, k3, k4, k5⟩
          · exact Or.inl ⟨v, k1, k2, k3.after hwf⟩
          · exact Or.inr ⟨v, cg', q, c2, e2, o2, k1, k2, k3, hwf.trans k4, k5⟩
        · rw [eat_f (v := 50 + 59) hb'.z9 (by omega) (fun q => h9 ((hb'.kz 59 109 (by decide)).mpr q)), obF, take_f h9]
          dsimp only
          rw [if_neg (by decide)]
          exact Or.inl ⟨w, rfl, rfl, hb'.fl g5⟩
