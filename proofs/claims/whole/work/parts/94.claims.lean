/-! A claim in a test; the code read so far -/
def WF (x z y w : XS) : Prop := (∀ q k, q ≠ 34 → ¬ (8 ≤ q ∧ q ≤ 20) → y.1 q k = x.1 q k) ∧ (∀ q k, q ≠ 35 → q ≠ 36 → y.2 q k = x.2 q k) ∧ (∀ q k, q ≠ 5 → q ≤ 26 → ¬ (q = 0 ∧ (k = 9 ∨ k = 10)) → ¬ (q = 21 ∧ (k = 6 ∨ k = 12 ∨ k = 14)) → w.1 q k = z.1 q k)
def Fl (N : Nat) (x z y w : XS) : Prop := (∃ p', p' < N ∧ y.1 34 4 = nI p' ∧ w.1 0 9 = nI p') ∧ WF x z y w
theorem WF.trans {x z x1 z1 x2 z2 : XS} (h : WF x z x1 z1) (g : WF x1 z1 x2 z2) : WF x z x2 z2 :=
  ⟨fun q k a b => (g.1 q k a b).trans (h.1 q k a b), fun q k a b => (g.2.1 q k a b).trans (h.2.1 q k a b), fun q k a b c d => (g.2.2 q k a b c d).trans (h.2.2 q k a b c d)⟩
theorem Fr.wf {x z y w : XS} {cf cg : Nat → Int32} {p c e p' : Nat} (h : Fr x z cf p c e y w cg p') : WF x z y w := by
  obtain ⟨h1, h2, h3, h4, -⟩ := h
  exact ⟨fun q k a b => h1 q k a (by omega) (by omega), fun q k _ _ => by rw [h2], fun q k a b c d => h4 q k a (by omega) (by omega) c (by omega)⟩
theorem Fl.after {N : Nat} {x z x1 z1 y w : XS} (h : WF x z x1 z1) (g : Fl N x1 z1 y w) : Fl N x z y w := ⟨g.1, h.trans g.2⟩
theorem Go.fl {N F S : Nat} {x z y w : XS} {cf cg : Nat → Int32} {p c e o p' c' e' o' d' : Nat} (h : Go N F S x z cf p c e o y w cg p' c' e' o' d') : Fl N x z y w :=
  ⟨⟨p', h.st.2.1, h.st.2.2.1, h.st.2.2.2.1⟩, h.fr.wf⟩
theorem Go.refl {N F S : Nat} {x z : XS} {cf : Nat → Int32} {p c e o d : Nat} (h : St N F S x z cf p c e o d) : Go N F S x z cf p c e o x z cf p c e o d :=
  ⟨Nat.le_refl _, Nat.le_refl _, Nat.le_refl _, Nat.le_refl _, h, fun _ _ _ _ _ => rfl, rfl, fun _ _ _ _ _ => rfl, fun _ _ _ _ _ _ _ => rfl, fun _ _ => rfl, fun j a b => absurd b (by omega), fun _ _ => rfl, fun a => a⟩
theorem find_val (x : XS) (q : Nat) (v : Int64) : ∀ (n j : Nat), findL x q v n j = -1 ∨ ∃ k, k < j + n ∧ findL x q v n j = nI k
  | 0, j => Or.inl rfl
  | n + 1, j => by
    rw [show findL x q v (n + 1) j = if x.2 q j = v then nI j else findL x q v n (j + 1) from rfl]
    split
    · exact Or.inr ⟨j, by omega, rfl⟩
    · rcases find_val x q v n (j + 1) with h | ⟨k, a, b⟩
      · exact Or.inl h
      · exact Or.inr ⟨k, by omega, b⟩
theorem find_max {x : XS} {q n : Nat} {c : Int32} {v : Int64} (hn : n ≤ 20) : ∃ k, k < 20 ∧ maxI (findF x q n c v) 0 = nI k := by
  unfold findF
  rcases find_val x q v (min c.toNatClampNeg n) 0 with h | ⟨k, a, b⟩
  · exact ⟨0, by omega, by rw [h]; decide⟩
  · exact ⟨k, by omega, by rw [b]; exact maxI_n (by omega)⟩
theorem fam_find {x : XS} {ρ : Nat → Int32} {V : Nat → Int64} {p F : Nat} (hp : p < 2 ^ 31) (h : FamL x ρ V p F) (v : Int64) : findF x 35 10 (x.1 8 0) v = tl ρ V 1 v p ∧ cn ρ 1 p = F := by
  obtain ⟨a, b, c, d⟩ := h
  refine ⟨?_, a⟩
  unfold findF
  rw [c, nI_clamp (by omega), show min F 10 = F by omega, ← a]
  exact find_tl v hp d
theorem stm_find {x : XS} {ρ : Nat → Int32} {V : Nat → Int64} {p S : Nat} (hp : p < 2 ^ 31) (h : StmL x ρ V p S) (v : Int64) : findF x 36 20 (x.1 8 1) v = tl ρ V 2 v p ∧ cn ρ 2 p = S := by
  obtain ⟨a, b, c, d⟩ := h
  refine ⟨?_, a⟩
  unfold findF
  rw [c, nI_clamp (by omega), show min S 20 = S by omega, ← a]
  exact find_tl v hp d
theorem er7 {σ : Nat → Int32} {V : Nat → Int64} {p : Nat} (h : σ p = 7) : er σ V p = if tl σ V 1 (V p) p = -1 then 3 else 0 := by
  unfold er; rw [h, if_neg (by decide), if_neg (by decide), if_pos (by decide)]
theorem er8 {σ : Nat → Int32} {V : Nat → Int64} {p : Nat} (h : σ p = 8) : er σ V p = if tl σ V 2 (V p) p = -1 then 3 else 0 := by
  unfold er; rw [h, if_neg (by decide), if_neg (by decide), if_neg (by decide), if_neg (by decide), if_pos (by decide)]
theorem mn7 {σ : Nat → Int32} {V : Nat → Int64} {p : Nat} (h : σ p = 7) : mnr σ V p = tl σ V 1 (V p) p := by unfold mnr; rw [h, if_neg (by decide)]
theorem mn8 {σ : Nat → Int32} {V : Nat → Int64} {p : Nat} (h : σ p = 8) : mnr σ V p = tl σ V 2 (V p) p := by unfold mnr; rw [h, if_pos (by decide)]
theorem Md.fam {x : XS} {ρ : Nat → Int32} {V : Nat → Int64} {p : Nat} {P Q : Prop} (h : Md x ρ V p (P ∧ Q)) (h5 : x.1 34 5 = 0) : P ∧ Q := by
  rcases h with ⟨-, -, h⟩ | ⟨t, -, -, c, -⟩
  · exact h
  · exact absurd h5 c
theorem St.md {N F S : Nat} {x z : XS} {cf : Nat → Int32} {p c e o d : Nat} (h : St N F S x z cf p c e o d) : Md x (z.1 5) (x.2 7) p (FamL x (z.1 5) (x.2 7) p F ∧ StmL x (z.1 5) (x.2 7) p S) := h.2.2.2.2.2.2.2.2.2.2.2
theorem St.N {N F S : Nat} {x z : XS} {cf : Nat → Int32} {p c e o d : Nat} (h : St N F S x z cf p c e o d) : p < N ∧ N ≤ 401 := ⟨h.2.1, h.1.2.1⟩
theorem St.ck {N F S : Nat} {x z : XS} {cf : Nat → Int32} {p c e o d : Nat} (h : St N F S x z cf p c e o d) : curK x = x.1 5 p := curK_ok h.1 h.2.1 h.2.2.1
theorem St.km {N F S : Nat} {x z : XS} {cf : Nat → Int32} {p c e o d : Nat} (h : St N F S x z cf p c e o d) : (x.1 5 p, z.1 2 p) ∈ KM := (h.1.2.2.2.1 p h.2.1).1
theorem St.kz {N F S : Nat} {x z : XS} {cf : Nat → Int32} {p c e o d : Nat} (h : St N F S x z cf p c e o d) (a b : Int32) (hab : (a, b) ∈ KM) : curK x = a ↔ z.1 2 p = b := by rw [h.ck]; exact km_iff h.km hab
theorem St.nx {N F S : Nat} {x z : XS} {cf : Nat → Int32} {p c e o d : Nat} (h : St N F S x z cf p c e o d) {a : Int32} (hk : curK x = a) (h1 : a ≠ 260) (h2 : a ≠ 261) : p + 1 < N := by rw [h.ck] at hk; exact tok_end h.1 h.2.1 (by rw [hk]; exact h1) (by rw [hk]; exact h2)
theorem St.z9 {N F S : Nat} {x z : XS} {cf : Nat → Int32} {p c e o d : Nat} (h : St N F S x z cf p c e o d) : z.1 0 9 = nI p := h.2.2.2.1
theorem nI_2 (k : Nat) : 2 * nI k = nI (2 * k) := (Int32.ofNat_mul 2 k).symm
theorem nm_f {N F S : Nat} {x z : XS} {cf : Nat → Int32} {p c e o d : Nat} (h : St N F S x z cf p c e o d) (hk : curK x ≠ 258) (hl : e < 800) (hol : o < 400) (r : Int32) : ∃ w, f_X10_isName r z = some (false, w) ∧ Fl N x z x w := by
  have hN := h.N
  have hkz : z.1 2 p ≠ 40 := fun q => hk ((h.kz 258 40 (by decide)).mpr q)
  obtain ⟨hT, hpN, hx, hz, hrr, hc, he, ho, hd, hcf, hro, hm⟩ := h
  have hzn : (nmS z p e o r).1 0 9 = nI p := (nmS_n (by omega) (by omega) (by omega) (by omega)).trans hz
  refine ⟨nmS z p e o r, ?_, ⟨p, hpN, hx, hzn⟩, fun _ _ _ _ => rfl, fun _ _ _ _ => rfl, fun q k a b c d => nmS_n (by omega) (by omega) (by omega) (by omega)⟩
  rw [name_eq hz (by omega) he ho hl hol, eat_f hzn (by omega) (fun q => hkz ((nmS_n (by omega) (by omega) (by omega) (by omega)).symm.trans q))]
/-- a claim in a test, in both -/
theorem claim_in {N F S : Nat} {x z : XS} {cf : Nat → Int32} {p c e o d : Nat} (h : St N F S x z cf p c e o d) (hl : e < 800) (hl2 : p + 2 < N → e + 2 ≤ 800) (hol : o < 400) :
    (∃ w, f_X10_isClaimIn z = some (false, w) ∧ (claimU x).1 = -1 ∧ Fl N x z (claimU x).2 w) ∨
    (∃ w cg, f_X10_isClaimIn z = some (true, w) ∧ ¬ (claimU x).1 < 0 ∧ Go N F S x z cf p c e o (claimU x).2 w cg (p + 2) c (e + 2) (o + 1) d ∧ ((claimU x).2.1 34 5 = 0 → ∃ k, k < 2 * F ∧ (claimU x).1 = nI k ∧ 2 * cg e + cg (e + 1) = nI k)) := by
  have hN := h.N
  by_cases hk : curK x = 258
  · have hfi : x.1 34 5 = 0 → findF x 35 10 (x.1 8 0) (x.2 7 p) = tl (z.1 5) (x.2 7) 1 (x.2 7 p) p ∧ cn (z.1 5) 1 p = F := fun h5 => fam_find (by omega) (h.md.fam h5).1 _
    obtain ⟨n1, n2, n3, n4⟩ := st_name h (h.ck.symm.trans hk) (by omega) hol (Or.inl rfl) hfi (fun _ => er7) (fun _ => mn7)
    obtain ⟨j, j1, j2⟩ := find_max (x := x) (q := 35) (n := 10) (c := x.1 8 0) (v := x.2 7 p) (by decide)
    rw [j2] at n2
    generalize hu : knownU x 35 10 (x.1 8 0) = u at *
    obtain ⟨u1, y⟩ := u
    dsimp only at n2 n3 n4
    subst n2
    generalize setI (nmS z p e o 7) 0 9 (nI (p + 1)) = z1 at *
    have hcl : claimU x = (let t := takeU y 310; if t.1 then (2 * nI j, t.2) else let t2 := takeU t.2 311; if t2.1 then (2 * nI j + 1, t2.2) else (-1, t2.2)) := by
      unfold claimU; rw [hu]; dsimp only; rw [if_neg (nI_nn (by omega))]
    have hG : f_X10_isClaimIn z = ob (f_X10_is 10 z1) (fun u12 => (if (b2i u12.1) = 0 then ob (f_X10_is 11 u12.2) (fun u21 => (if (b2i u21.1) = 0 then some (false, u21.2) else ob (f_X10_is 11 u21.2) (fun u33 => (if (b2i u33.1) = 0 then ob (f_X10_put 0 u33.2) (fun u44 => some (true, (setI u44 0 9 ((u44.1 0 9) + 1)))) else ob (f_X10_put 1 u33.2) (fun u44 => some (true, (setI u44 0 9 ((u44.1 0 9) + 1)))))))) else ob (f_X10_is 11 u12.2) (fun u33 => (if (b2i u33.1) = 0 then ob (f_X10_put 0 u33.2) (fun u44 => some (true, (setI u44 0 9 ((u44.1 0 9) + 1)))) else ob (f_X10_put 1 u33.2) (fun u44 => some (true, (setI u44 0 9 ((u44.1 0 9) + 1)))))))) := by
      unfold f_X10_isClaimIn; rw [n1, ob_some1, if_neg (b2i_n rfl)]
    rw [hcl, hG]
    have s1 := n3.st
    have hN1 := s1.N
    have fin : ∀ (v : Int32) (hb : v = 0 ∨ v = 1), p + 2 < N → ∃ w cg, ob (f_X10_put v z1) (fun u44 => some (true, (setI u44 0 9 ((u44.1 0 9) + 1)))) = some (true, w) ∧ Go N F S x z cf p c e o (adv y) w cg (p + 2) c (e + 2) (o + 1) d ∧ ((adv y).1 34 5 = 0 → ∃ k, k < F ∧ maxI (findF x 35 10 (x.1 8 0) (x.2 7 p)) 0 = nI k ∧ 2 * cg e + cg (e + 1) = 2 * nI k + v) := by
      intro v hb hp2
      obtain ⟨a1, a2⟩ := st_put s1 (by omega) v
      have a3 := st_adv a2.st hp2
      refine ⟨_, _, ?_, (n3.trans a2).trans a3, fun h5 => ?_⟩
      · rw [a1, ob_some1, a2.st.z9, show nI (p + 1) + 1 = nI (p + 1 + 1) from nI_addN (p + 1) 1]
      · have h5' := a3.fr.2.2.2.2.2.2.2 h5
        obtain ⟨k, k1, k2, k3⟩ := n4 h5'
        refine ⟨k, k1, ?_, ?_⟩
        · rw [k2]; exact maxI_n (by have := h.md.fam (n3.fr.2.2.2.2.2.2.2 h5'); have := this.1.2.1; omega)
        · rw [show updF (updF cf e (tl (z.1 5) (x.2 7) 1 (x.2 7 p) p)) (e + 1) v e = tl (z.1 5) (x.2 7) 1 (x.2 7 p) p by unfold updF; rw [if_neg (by omega), if_pos rfl], k3]
          unfold updF; rw [if_pos rfl]
    have z1p : z1.1 0 9 = nI (p + 1) := s1.z9
    by_cases h10 : curK y = 310
    · have q10 := (s1.kz 310 10 (by decide)).mp h10
      have q11 : z1.1 2 (p + 1) ≠ 11 := by rw [q10]; decide
      obtain ⟨w, cg, f1, f2, f3⟩ := fin 0 (Or.inl rfl) (s1.nx h10 (by decide) (by decide))
      right
      rw [take_t h10, is_t z1p (by omega) q10, ob_some1, if_neg (b2i_n rfl), is_f z1p (by omega) q11, ob_some1, if_pos (b2i_f rfl)]
      dsimp only
      rw [if_pos rfl]
      refine ⟨w, cg, f1, ?_, f2, fun h5 => ?_⟩
      · rw [nI_2]; exact nI_nn (by omega)
      · obtain ⟨k, k1, k2, k3⟩ := f3 h5
        have hjk : nI j = nI k := j2.symm.trans k2
        refine ⟨2 * k, by omega, ?_, ?_⟩
        · rw [hjk]; exact nI_2 k
        · rw [k3, nI_2]; exact Int32.add_zero _
    · have q10 : z1.1 2 (p + 1) ≠ 10 := fun q => h10 ((s1.kz 310 10 (by decide)).mpr q)
      by_cases h11 : curK y = 311
      · have q11 := (s1.kz 311 11 (by decide)).mp h11
        obtain ⟨w, cg, f1, f2, f3⟩ := fin 1 (Or.inr rfl) (s1.nx h11 (by decide) (by decide))
        right
        rw [take_f h10, is_f z1p (by omega) q10, ob_some1, if_pos (b2i_f rfl), is_t z1p (by omega) q11, ob_some1, if_neg (b2i_n rfl), is_t z1p (by omega) q11, ob_some1, if_neg (b2i_n rfl)]
        dsimp only
        rw [if_neg (by decide), take_t h11]
        dsimp only
        rw [if_pos rfl]
        refine ⟨w, cg, f1, ?_, f2, fun h5 => ?_⟩
        · rw [nI_2, show nI (2 * j) + 1 = nI (2 * j + 1) from nI_addN _ 1]; exact nI_nn (by omega)
        · obtain ⟨k, k1, k2, k3⟩ := f3 h5
          have hjk : nI j = nI k := j2.symm.trans k2
          refine ⟨2 * k + 1, by omega, ?_, ?_⟩
          · rw [hjk, nI_2]; exact nI_addN _ 1
          · rw [k3, nI_2]; exact nI_addN _ 1
      · have q11 : z1.1 2 (p + 1) ≠ 11 := fun q => h11 ((s1.kz 311 11 (by decide)).mpr q)
        left
        rw [take_f h10, is_f z1p (by omega) q10, ob_some1, if_pos (b2i_f rfl), is_f z1p (by omega) q11, ob_some1, if_pos (b2i_f rfl)]
        dsimp only
        rw [if_neg (by decide), take_f h11]
        dsimp only
        rw [if_neg (by decide)]
        exact ⟨z1, rfl, rfl, n3.fl⟩
  · obtain ⟨w, w1, w2⟩ := nm_f h hk (by omega) hol 7
    left
    refine ⟨w, ?_, ?_, ?_⟩
    · unfold f_X10_isClaimIn; rw [w1, ob_some1, if_pos (b2i_f rfl)]
    · unfold claimU; rw [known_f _ _ _ hk]; rfl
    · have : (claimU x).2 = x := by unfold claimU; rw [known_f _ _ _ hk]; rfl
      rw [this]; exact w2
