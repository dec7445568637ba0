/-! The questions about peaces: both answer alike -/
theorem best_uniq {P : Nat → Bool} {n t u : Nat} (h1 : Best P n t) (h2 : Best P n u) : t = u := by
  rcases h1 with ⟨a, b⟩ | ⟨a, b, c⟩
  · rcases h2 with ⟨d, e⟩ | ⟨d, e, f⟩
    · omega
    · rw [a u d] at e; cases e
  · rcases h2 with ⟨d, e⟩ | ⟨d, e, f⟩
    · rw [d t a] at b; cases b
    · rcases c u d e with q | q
      · exact q.symm
      · rcases f t a b with q2 | q2
        · exact q2
        · exact (ahead_not q q2).elim
theorem Bk.zs' {R : XS → XS → Prop} {x z : XS} {F S : Nat} {l r : Nat → Nat} {m : Nat} (h : Bk R x z F S l r m) : z.1 0 15 = x.1 46 1 := h.zs.trans h.xs.symm
theorem ag_isPeacePossible {R : XS → XS → Prop} (hR : Stab R) : AgN (IV R) f_X8_isPeacePossible f_X10_isPeacePossible := by
  rintro x z ⟨F, S, l, r, m, h⟩
  have h0 := h.r0 hR
  obtain ⟨l1, l2⟩ := h0.lookz hR
  have hl := l1.landx hR
  unfold f_X8_isPeacePossible f_X10_isPeacePossible
  change ∃ v x1 z1, _ ∧ og (cdec (MOK (r0 z))) (if (mlook ((r0 z).1 0 15) (r0 z)).1 0 18 ≤ 0 then some (false, mlook ((r0 z).1 0 15) (r0 z)) else some (true, mlook ((r0 z).1 0 15) (r0 z))) = _ ∧ _
  rw [cdec_t h0.mok, h.cnt, l2.1]
  by_cases hc : nI (fb_ct (PA l r (nI m) S) (2 ^ F)) ≤ 0
  · rw [if_pos hc, if_pos hc]; exact ⟨false, _, _, rfl, rfl, IVi hl⟩
  · rw [if_neg hc, if_neg hc]; exact ⟨true, _, _, rfl, rfl, IVi hl⟩
theorem ag_peaces {R : XS → XS → Prop} (hR : Stab R) : AgN (IV R) f_X8_peaces (fun z => some ((mlook (z.1 0 15) z).1 0 18, r0 (mlook (z.1 0 15) z))) := by
  rintro x z ⟨F, S, l, r, m, h⟩
  obtain ⟨l1, l2⟩ := h.lookz hR
  refine ⟨nI (fb_ct (PA l r (nI m) S) (2 ^ F)), landLook (x.1 46 1) x, r0 (mlook (z.1 0 15) z), ?_, ?_, IVi ((l1.landx hR).r0 hR)⟩
  · unfold f_X8_peaces; rw [h.cnt]
  · dsimp only; rw [l2.1]
theorem mlook_00 {b : Int32} {x : XS} : (mlook b x).1 0 0 = x.1 0 0 := mlook_0 (by decide)
theorem ag_peacesWith {R : XS → XS → Prop} (hR : Stab R) (p : Int32) : AgT (IV R) code1 cvI (fun E => E = "java/lang/IndexOutOfBoundsException") (f_X8_peacesWith p) (fun z => some (pewU p (r0 z))) := by
  rintro x z ⟨F, S, l, r, m, h⟩
  have h0 := h.r0 hR
  unfold f_X8_peacesWith pewU
  have hF := h.bx.1
  rcases needCl h.bx h0.bz p with ⟨k, k1, rfl, k3, k4⟩ | ⟨k3, k4⟩
  · dsimp only
    rw [k3, k4, if_pos rfl, nI_clamp (by omega)]
    obtain ⟨l1, l2⟩ := h0.lookz hR
    refine Or.inr ⟨_, _, _, rfl, rfl, ?_, ?_, IVi (l1.landx hR)⟩
    · rw [mlook_00]; exact r00 z
    · show cvI (countWithF x (x.1 46 1) (nI k)) = cvI _
      rw [h.cntw k1, l2.2.2.2 k k1]
  · dsimp only
    rw [k3, k4, if_neg (by decide)]
    exact Or.inl ⟨_, x, _, rfl, rfl, z00 _ _, rfl, IVi (h0.z0 hR 1)⟩
theorem ag_isPossible {R : XS → XS → Prop} (hR : Stab R) (p : Int32) : AgT (IV R) code1 cvB (fun E => E = "java/lang/IndexOutOfBoundsException") (f_X8_isPossible p) (mb (fun z => some (posU p (r0 z)))) := by
  rintro x z ⟨F, S, l, r, m, h⟩
  have h0 := h.r0 hR
  unfold f_X8_isPossible mb posU
  have hF := h.bx.1
  rcases needCl h.bx h0.bz p with ⟨k, k1, rfl, k3, k4⟩ | ⟨k3, k4⟩
  · dsimp only
    rw [k3, k4, if_pos rfl, nI_clamp (by omega)]
    obtain ⟨l1, l2⟩ := h0.lookz hR
    have h9 : (mlook ((r0 z).1 0 15) (r0 z)).1 0 0 = 0 := by rw [mlook_00]; exact r00 z
    have hl := IVi (l1.landx hR)
    show (∃ E x1 w, (if countWithF x (x.1 46 1) (nI k) ≤ 0 then _ else _) = _ ∧ _) ∨ ∃ v x1 w, (if countWithF x (x.1 46 1) (nI k) ≤ 0 then _ else _) = _ ∧ _
    rw [h.cntw k1, l2.2.2.2 k k1]
    generalize nI (fb_ct (fun p => PA l r (nI m) S p && holdsP p k) (2 ^ F)) = v
    by_cases hc : v ≤ 0
    · rw [if_pos hc, if_pos hc]; exact Or.inr ⟨_, _, _, rfl, rfl, h9, rfl, hl⟩
    · rw [if_neg hc, if_neg hc]; exact Or.inr ⟨_, _, _, rfl, rfl, h9, rfl, hl⟩
  · dsimp only
    rw [k3, k4, if_neg (by decide)]
    exact Or.inl ⟨_, x, _, rfl, rfl, z00 _ _, rfl, IVi (h0.z0 hR 1)⟩
theorem og_true {α : Type} (r : Option α) : og true r = r := rfl
theorem ob_some1 {α β : Type} (v : β) (f : β → Option α) : ob (some v) f = f v := rfl
theorem rbo_inr1 (v : Option Value) (y : XS) (f : XS → Option RT) : rbo (.inr (v, y)) f = f y := rfl
theorem rbo_inl1 (e : String × XS) (f : XS → Option RT) : rbo (.inl e) f = some (.inl e) := rfl
theorem needPe {R : XS → XS → Prop} {x z : XS} {F S : Nat} {l r : Nat → Nat} {m : Nat} (h : Bk R x z F S l r m) : f_X8_needPeace x = if nI (fb_ct (PA l r (nI m) S) (2 ^ F)) = 0 then some (.inl ("java/lang/IllegalStateException", landLook (x.1 46 1) x)) else some (.inr (none, landLook (x.1 46 1) x)) := by
  unfold f_X8_needPeace
  rw [h.cnt]
theorem inB_nI {k n : Nat} (hk : k < n) (hn : n < 2 ^ 31) : inB (nI k) n = true := by
  unfold inB
  rw [decide_eq_true_iff, nI_clamp (by omega)]
  rintro (h | h)
  · exact nI_pos (by omega) h
  · omega
theorem b2i_f {b : Bool} (h : b = false) : b2i b = 0 := by rw [h]; rfl
theorem b2i_n {b : Bool} (h : b = true) : ¬ b2i b = 0 := by rw [h]; decide
theorem ag_isSettled {R : XS → XS → Prop} (hR : Stab R) (p : Int32) : AgT (IV R) code2 cvB (fun E => E = "java/lang/IndexOutOfBoundsException" ∨ E = "java/lang/IllegalStateException") (f_X8_isSettled p) (mb (f_X10_isSettled p)) := by
  rintro x z ⟨F, S, l, r, m, h⟩
  have h0 := h.r0 hR
  unfold f_X8_isSettled mb f_X10_isSettled
  rw [show setI z 0 0 0 = r0 z from rfl]
  have hF := h.bx.1
  rcases needCl h.bx h0.bz p with ⟨k, k1, rfl, k3, k4⟩ | ⟨k3, k4⟩
  · rw [k3, if_neg (b2i_n k4), cdec_t h0.mok]
    obtain ⟨l1, l2⟩ := h0.lookz hR
    have g1 := l1.landx hR
    have hx1 := h.landx hR
    show (∃ E x1 w, ob (f_X8_needPeace x) _ = _ ∧ _) ∨ ∃ v x1 w, ob (f_X8_needPeace x) _ = _ ∧ _
    rw [needPe h]
    generalize hy : mlook ((r0 z).1 0 15) (r0 z) = y at l1 l2 g1
    have y00 : y.1 0 0 = 0 := by rw [← hy, mlook_00]; exact r00 z
    generalize landLook (x.1 46 1) x = x2 at g1 hx1
    rw [og_true, l2.1]
    by_cases hc : nI (fb_ct (PA l r (nI m) S) (2 ^ F)) = 0
    · rw [if_pos hc, if_pos hc]
      exact Or.inl ⟨_, _, _, rfl, rfl, (z00 _ _).trans code2_2.symm, Or.inr rfl, IVi (g1.z0 hR 2)⟩
    · rw [if_neg hc, if_neg hc, cdec_t l1.mok, inB_nI (show k < 20 by omega) (by decide), nI_clamp (by omega)]
      obtain ⟨v1, v2⟩ := g1.lookz hR
      have v3 := v1.landx hR
      have v00 : (mlook (y.1 0 15) y).1 0 0 = 0 := by rw [mlook_00]; exact y00
      simp only [ob_some1, rbo_inr1, og_true]
      rw [g1.cntw k1, v3.cnt, v2.1, v2.2.2.2 k k1]
      have v4 := v3.landx hR
      by_cases he : nI (fb_ct (fun p => PA l r (nI m) S p && holdsP p k) (2 ^ F)) = nI (fb_ct (PA l r (nI m) S) (2 ^ F))
      · rw [if_pos he, if_pos he]; exact Or.inr ⟨_, _, _, rfl, rfl, v00, rfl, IVi v4⟩
      · rw [if_neg he, if_neg he]; exact Or.inr ⟨_, _, _, rfl, rfl, v00, rfl, IVi v4⟩
  · rw [k3, if_pos (b2i_f k4)]
    exact Or.inl ⟨_, x, _, rfl, rfl, (z00 _ _).trans code2_1.symm, Or.inl rfl, IVi (h0.z0 hR 1)⟩
theorem Bk.ridx {R : XS → XS → Prop} (hR : Stab R) {x z : XS} {F S : Nat} {l r : Nat → Nat} {m : Nat} (h : Bk R x z F S l r m) : Bk R (ridersU x (x.1 46 1)).2 z F S l r m ∧ ∃ t, (ridersU x (x.1 46 1)).1 = nI t ∧ t < 1024 ∧ Best (PA l r (nI m) S) (2 ^ F) t := by
  rw [h.xs]; exact h.rid1 hR h.ne
theorem told_same {R : XS → XS → Prop} (hR : Stab R) {x y : XS} {F S : Nat} {l r : Nat → Nat} {m : Nat} (h : Bk R x y F S l r m) (hL : LookC y F S l r (nI m)) : (ridersU x (x.1 46 1)).1 = y.1 0 20 := by
  obtain ⟨-, t, t1, -, t2⟩ := h.ridx hR
  obtain ⟨u, u1, u2⟩ := hL.2.2.1
  rw [t1, u1, best_uniq t2 u2]
theorem ag_ridesInPeace {R : XS → XS → Prop} (hR : Stab R) (p : Int32) : AgT (IV R) code2 cvB (fun E => E = "java/lang/IndexOutOfBoundsException" ∨ E = "java/lang/IllegalStateException") (f_X8_ridesInPeace p) (mb (f_X10_ridesInPeace p)) := by
  rintro x z ⟨F, S, l, r, m, h⟩
  have h0 := h.r0 hR
  unfold f_X8_ridesInPeace mb f_X10_ridesInPeace
  rw [show setI z 0 0 0 = r0 z from rfl, h.bx.2.2.1, h0.bz.2.2.1]
  have hF := h.bx.1
  rcases rng (n := F) (by omega) p with ⟨k, k1, rfl, k3, k4, k5⟩ | ⟨k3, k4⟩
  · rw [if_neg k3, if_pos k4, if_neg (b2i_n k5), cdec_t h0.mok]
    obtain ⟨l1, l2⟩ := h0.lookz hR
    have g1 := l1.landx hR
    show (∃ E x1 w, ob (f_X8_needPeace x) _ = _ ∧ _) ∨ ∃ v x1 w, ob (f_X8_needPeace x) _ = _ ∧ _
    rw [needPe h]
    generalize hy : mlook ((r0 z).1 0 15) (r0 z) = y at l1 l2 g1
    have y00 : y.1 0 0 = 0 := by rw [← hy, mlook_00]; exact r00 z
    generalize landLook (x.1 46 1) x = x2 at g1
    rw [og_true, l2.1]
    by_cases hc : nI (fb_ct (PA l r (nI m) S) (2 ^ F)) = 0
    · rw [if_pos hc, if_pos hc]
      exact Or.inl ⟨_, _, _, rfl, rfl, (z00 _ _).trans code2_2.symm, Or.inr rfl, IVi (g1.z0 hR 2)⟩
    · rw [if_neg hc, if_neg hc]
      refine Or.inr ⟨_, _, _, rfl, rfl, y00, ?_, IVi (g1.ridx hR).1⟩
      show cvB (b2i (hasB (ridersU x2 (x2.1 46 1)).1 (nI k))) = cvB (b2i (mhasB (y.1 0 20) (nI k)))
      rw [told_same hR g1 l2, hasB_bit (by omega), mhasB_bit (by omega)]
  · rw [if_pos (b2i_f k4)]
    rcases k3 with k3 | ⟨k3, k5⟩
    · rw [if_pos k3]
      exact Or.inl ⟨_, x, _, rfl, rfl, (z00 _ _).trans code2_1.symm, Or.inl rfl, IVi (h0.z0 hR 1)⟩
    · rw [if_neg k3, if_neg k5]
      exact Or.inl ⟨_, x, _, rfl, rfl, (z00 _ _).trans code2_1.symm, Or.inl rfl, IVi (h0.z0 hR 1)⟩
theorem ag_ridersInPeace {R : XS → XS → Prop} (hR : Stab R) : AgT (IV R) code1 cvI (fun E => E = "java/lang/IllegalStateException") (f_X8_ridersInPeace) (f_X10_ridersInPeace) := by
  rintro x z ⟨F, S, l, r, m, h⟩
  have h0 := h.r0 hR
  unfold f_X8_ridersInPeace f_X10_ridersInPeace
  rw [show setI z 0 0 0 = r0 z from rfl, cdec_t h0.mok, needPe h]
  obtain ⟨l1, l2⟩ := h0.lookz hR
  have g1 := l1.landx hR
  generalize hy : mlook ((r0 z).1 0 15) (r0 z) = y at l1 l2 g1
  have y00 : y.1 0 0 = 0 := by rw [← hy, mlook_00]; exact r00 z
  generalize landLook (x.1 46 1) x = x2 at g1
  show (∃ E x1 w, _ ∧ (if y.1 0 18 = 0 then _ else _) = some w ∧ _) ∨ ∃ v x1 w, _ ∧ (if y.1 0 18 = 0 then _ else _) = some w ∧ _
  rw [l2.1]
  by_cases hc : nI (fb_ct (PA l r (nI m) S) (2 ^ F)) = 0
  · rw [if_pos hc, if_pos hc]
    exact Or.inl ⟨_, _, _, rfl, rfl, z00 _ _, rfl, IVi (g1.z0 hR 1)⟩
  · rw [if_neg hc, if_neg hc]
    refine Or.inr ⟨_, _, _, rfl, rfl, y00, ?_, IVi (g1.ridx hR).1⟩
    show cvI (bcI (ridersU x2 (x2.1 46 1)).1) = cvI (bcI (y.1 0 20))
    rw [told_same hR g1 l2]
theorem bit_m1 : ∀ j, j < 32 → bit (-1) j = true := by decide +kernel
theorem without_ne {v : Int32} {k : Nat} (hk : k < 32) : withoutI v (nI k) ≠ -1 := by
  intro e
  have := bit_without (v := v) hk hk
  rw [e, bit_m1 k hk, decide_eq_true rfl, Bool.not_true, Bool.and_false] at this
  cases this
theorem ag_isNeedless {R : XS → XS → Prop} (hR : Stab R) (p : Int32) : AgT (IV R) code2 cvB (fun E => E = "java/lang/IndexOutOfBoundsException" ∨ E = "java/lang/IllegalStateException") (f_X8_isNeedless p) (mb (fun z => some (needU p (r0 z)))) := by
  rintro x z ⟨F, S, l, r, m, h⟩
  have h0 := h.r0 hR
  unfold f_X8_isNeedless mb needU
  have hS := h.bx.2.1
  rcases needSt h.bx h0.bz p with ⟨k, k1, rfl, k3, k4⟩ | ⟨k3, k4⟩
  · dsimp only
    rw [k3, k4, if_pos rfl]
    show (∃ E x1 w, ob (f_X8_needStanding (nI k) x) _ = _ ∧ _) ∨ ∃ v x1 w, ob (f_X8_needStanding (nI k) x) _ = _ ∧ _
    unfold f_X8_needStanding
    rw [h.xs, h0.zs, hasB_bit (by omega), mhasB_bit (by omega)]
    cases hb : bit (nI m) k with
    | false =>
      rw [if_pos (show b2i false = 0 from rfl), if_neg (show ¬ false = true by decide)]
      exact Or.inl ⟨_, x, _, rfl, rfl, (z00 _ _).trans code2_2.symm, Or.inr rfl, IVi (h0.z0 hR 2)⟩
    | true =>
      rw [if_neg (show ¬ b2i true = 0 by decide), if_pos (show true = true from rfl)]
      have hne := h.ne
      have hw : withoutI (nI m) (nI k) ≠ -1 := without_ne (by omega)
      obtain ⟨l1, l2⟩ := h0.look1 hR hne
      obtain ⟨a1, a2⟩ := l1.look1 hR hw
      obtain ⟨b1, b2⟩ := a1.land1 hR hne
      obtain ⟨c1, c2⟩ := b1.land1 hR hw
      have c3 := count_eq b1.bx b1.pea b1.land hw
      have c4 := count_eq h.bx h.pea h.land hne
      have c5 : (mlook (withoutI (nI m) (nI k)) (mlook (nI m) (r0 z))).1 0 0 = 0 := by rw [mlook_00, mlook_00]; exact r00 z
      have hx : (landLook (nI m) x).1 46 1 = nI m := b1.xs
      simp only [ob_some1, rbo_inr1]
      rw [h.xs, hx, l1.zs, show (nI m &&& (((1 : Int32) <<< (nI k &&& 31)) ^^^ (-1))) = withoutI (nI m) (nI k) from rfl, c3, c4, l2.1, a2.1]
      by_cases he : nI (fb_ct (PA l r (withoutI (nI m) (nI k)) S) (2 ^ F)) = nI (fb_ct (PA l r (nI m) S) (2 ^ F))
      · rw [if_pos he, decide_eq_true he]; exact Or.inr ⟨_, _, _, rfl, rfl, c5, rfl, IVi c1⟩
      · rw [if_neg he, decide_eq_false he]; exact Or.inr ⟨_, _, _, rfl, rfl, c5, rfl, IVi c1⟩
  · dsimp only
    rw [k3, k4, if_neg (by decide)]
    exact Or.inl ⟨_, x, _, rfl, rfl, (z00 _ _).trans code2_1.symm, Or.inl rfl, IVi (h0.z0 hR 1)⟩
