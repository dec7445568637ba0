/-! Tests by depth -/
theorem neg1 : (-1 : Int32) < 0 := by decide
theorem sin_possible {N F S d : Nat} {x z : XS} {cf : Nat → Int32} {p c e o : Nat} (hs : St N F S x z cf p c e o d) (hc : c ≤ p) (he : e ≤ 2 * p) (ho : o ≤ p) (hk : curK x = 319) :
    Re true N F S x z cf p c e o d (let c := claimU (adv x); (if c.1 < 0 then false else true, addCoF c.2 319 c.1 0)) (f_X10_isOfClaims 19 z) := by
  have hN := hs.N
  have hp := hs.nx hk (by decide) (by decide)
  unfold f_X10_isOfClaims
  obtain ⟨r1, r2⟩ := st_put hs (show e < 800 by omega) 19
  have a := st_adv r2.st hp
  rw [r1, ob_some1, r2.st.z9, show nI p + 1 = nI (p + 1) from nI_addN p 1]
  dsimp only
  have hci := claim_in a.st (by omega) (by omega) (by omega)
  generalize claimU (adv x) = u at *
  rcases hci with ⟨w, g1, g2, g3⟩ | ⟨w, cg, g1, g2, g3, g4⟩
  · rw [g1, obF, g2, if_pos neg1]
    exact Or.inl ⟨w, rfl, rfl, (g3.after (r2.trans a).fr.wf).co _ _ _⟩
  · rw [g1, obT, if_pos rfl, if_neg g2]
    have hN2 := g3.st.N
    obtain ⟨q1, q2⟩ := st_co g3.st (show c < 400 by omega) 319 u.1 0
    rw [q1]
    have hcg : ∀ i, i < e + 1 → cg i = updF cf e 19 i := g3.fr.2.2.2.2.2.2.1
    refine Or.inr ⟨_, rfl, rfl, _, p + 1 + 2, 1, e + 1 + 2, o + 1, by omega, by omega, by omega, by omega, ((r2.trans a).trans g3).trans q2, fun h5 T hT => Pre.one (Or.inr (Or.inr (Or.inr (Or.inr (Or.inr (Or.inr (Or.inl ⟨?_, ?_, rfl, rfl, ?_⟩))))))) (by omega) (by show T.length + 1 ≤ 400; omega)⟩
    · exact (coS_v u.2 c 319 u.1 0).1
    · show cg e = 19
      rw [hcg e (by omega), upd_eq]
    · obtain ⟨k, k1, k2, k3⟩ := g4 (q2.fr.2.2.2.2.2.2.2 h5)
      exact ⟨k, k1, ((coS_v u.2 c 319 u.1 0).2.1).trans k2, k3⟩
theorem sin_follows {N F S d : Nat} {x z : XS} {cf : Nat → Int32} {p c e o : Nat} (hs : St N F S x z cf p c e o d) (hc : c ≤ p) (he : e ≤ 2 * p) (ho : o ≤ p) (hk : curK x = 321) :
    Re true N F S x z cf p c e o d (let c := claimU (adv x); let r := frU c; (if r.1 < 0 then false else true, addCoF r.2 321 c.1 r.1)) (f_X10_isOfClaims 21 z) := by
  have hN := hs.N
  have hp := hs.nx hk (by decide) (by decide)
  unfold f_X10_isOfClaims
  obtain ⟨r1, r2⟩ := st_put hs (show e < 800 by omega) 21
  have a := st_adv r2.st hp
  rw [r1, ob_some1, r2.st.z9, show nI p + 1 = nI (p + 1) from nI_addN p 1]
  dsimp only
  have hci := claim_in a.st (by omega) (by omega) (by omega)
  generalize claimU (adv x) = u at *
  rcases hci with ⟨w, g1, g2, g3⟩ | ⟨w, cg, g1, g2, g3, g4⟩
  · have e1 : frU u = (-1, u.2) := by unfold frU; rw [g2, if_pos neg1]
    rw [g1, obF, e1, if_pos neg1]
    exact Or.inl ⟨w, rfl, rfl, (g3.after (r2.trans a).fr.wf).co _ _ _⟩
  · rw [g1, obT, if_neg (show ¬ (21 : Int32) = 19 by decide)]
    dsimp only
    have s1 := g3.st
    have hN2 := s1.N
    have e0 : frU u = (let t := takeU u.2 322; if t.1 then claimU t.2 else (-1, t.2)) := by unfold frU; rw [if_neg g2]
    by_cases h22 : curK u.2 = 322
    · have hp2 := s1.nx h22 (by decide) (by decide)
      have a2 := st_adv s1 hp2
      have e1 : frU u = claimU (adv u.2) := by rw [e0, take_t h22]; dsimp only; rw [if_pos rfl]
      rw [eat_t s1.z9 (by omega) ((s1.kz 322 22 (by decide)).mp h22), obT, e1]
      dsimp only
      clear e1 e0
      have hci := claim_in a2.st (by omega) (by omega) (by omega)
      generalize claimU (adv u.2) = u2 at *
      rcases hci with ⟨w', g1', g2', g3'⟩ | ⟨w', cg', g1', g2', g3', g4'⟩
      · rw [g1', obF, g2', if_pos neg1]
        exact Or.inl ⟨w', rfl, rfl, (g3'.after (((r2.trans a).trans g3).trans a2).fr.wf).co _ _ _⟩
      · rw [g1', obT, if_neg g2']
        have hN3 := g3'.st.N
        obtain ⟨q1, q2⟩ := st_co g3'.st (show c < 400 by omega) 321 u.1 u2.1
        rw [q1]
        have hcg : ∀ i, i < e + 1 → cg i = updF cf e 21 i := g3.fr.2.2.2.2.2.2.1
        have hcg' : ∀ i, i < e + 1 + 2 → cg' i = cg i := (a2.trans g3').fr.2.2.2.2.2.2.1
        refine Or.inr ⟨_, rfl, rfl, _, p + 1 + 2 + 1 + 2, 1, e + 1 + 2 + 2, o + 1 + 1, by omega, by omega, by omega, by omega, ((((r2.trans a).trans g3).trans a2).trans g3').trans q2, fun h5 T hT => Pre.one (Or.inr (Or.inr (Or.inr (Or.inr (Or.inr (Or.inr (Or.inr (Or.inr (Or.inl ⟨?_, ?_, rfl, rfl, ?_⟩))))))))) (by omega) (by show T.length + 1 ≤ 400; omega)⟩
        · exact (coS_v u2.2 c 321 u.1 u2.1).1
        · show cg' e = 21
          rw [hcg' e (by omega), hcg e (by omega), upd_eq]
        · have f2 := q2.fr.2.2.2.2.2.2.2 h5
          obtain ⟨k, k1, k2, k3⟩ := g4 ((a2.trans g3').fr.2.2.2.2.2.2.2 f2)
          obtain ⟨j, j1, j2, j3⟩ := g4' f2
          refine ⟨k, j, k1, j1, ((coS_v u2.2 c 321 u.1 u2.1).2.1).trans k2, ((coS_v u2.2 c 321 u.1 u2.1).2.2).trans j2, ?_, j3⟩
          show 2 * cg' (e + 1) + cg' (e + 1 + 1) = nI k
          rw [hcg' _ (by omega), hcg' _ (by omega)]; exact k3
    · have e1 : frU u = (-1, u.2) := by rw [e0, take_f h22]; dsimp only; rw [if_neg (by decide)]
      rw [eat_f s1.z9 (by omega) (fun q => h22 ((s1.kz 322 22 (by decide)).mpr q)), obF, e1, if_pos neg1]
      exact Or.inl ⟨_, rfl, rfl, (((r2.trans a).trans g3).fl).co _ _ _⟩
/-- the second sum of a comparison -/
theorem cmp_two {N F S d : Nat} {x z : XS} {cf : Nat → Int32} {p c e o : Nat} (hc : c ≤ p) (he : e ≤ 2 * p) (ho : o ≤ p) {y w : XS} (hok : Ok false N F S x z cf p c e o d y w) {C : XS → Bool × XS} {G : XS → Option (Bool × XS)} (hC : Sm false C G N F S d) {k v : Int32} (hk : curK y = k) (hb : (k, v, false, true) ∈ bins) (hk0 : k ≠ 260) (hk1 : k ≠ 261) :
    Re true N F S x z cf p c e o d (let s2 := C (adv y); if s2.1 then (true, addCoF s2.2 (curK y) 0 0) else (false, s2.2)) (ob (G (setI w 0 9 ((w.1 0 9) + 1))) (fun u234 => (if (b2i u234.1) = 0 then some (false, u234.2) else ob (f_X10_put v u234.2) (fun u244 => some (true, u244))))) := by
  obtain ⟨cg, p', n', e', o', l1, l2, l3, l4, l5, l6⟩ := hok
  have s1 := l5.st
  have hN1 := s1.N
  have a := st_adv s1 (s1.nx hk hk0 hk1)
  rw [s1.z9, show nI p' + 1 = nI (p' + 1) from nI_addN p' 1]
  dsimp only
  rcases hC _ _ cg (p' + 1) (c + n') e' o' a.st (by omega) (by omega) (by omega) with ⟨w', g1', g2', g3'⟩ | ⟨w', g1', g2', cg', p2, n2, e2, o2, m1, m2, m3, m4, m5, m6⟩
  · rw [g1', obF, g2', if_neg (by decide)]
    exact Or.inl ⟨w', rfl, rfl, g3'.after (l5.trans a).fr.wf⟩
  · rw [g1', obT, g2', if_pos rfl, hk]
    have s2 := m5.st
    have hN2 := s2.N
    obtain ⟨q1, q2⟩ := st_co s2 (show c + n' + n2 < 400 by omega) k 0 0
    obtain ⟨r1, r2⟩ := st_put q2.st (show e2 < 800 by omega) v
    rw [r1, ob_some1, q1]
    refine Or.inr ⟨_, rfl, rfl, _, p2, n' + n2 + 1, e2 + 1, o2, by omega, by omega, by omega, by omega, by rw [show c + (n' + n2 + 1) = c + n' + n2 + 1 by omega]; exact (((l5.trans a).trans m5).trans q2).trans r2, fun h5 T hT => ?_⟩
    have f2 := (q2.trans r2).fr.2.2.2.2.2.2.2 h5
    have f1 := (a.trans m5).fr.2.2.2.2.2.2.2 f2
    have t1 := (((a.trans m5).trans q2).trans r2).pre (Nat.le_refl _) (l6 f1 T (by omega))
    have t2 := (q2.trans r2).pre (Nat.le_refl _) (m6 f2 (false :: T) (by show T.length + 1 ≤ p' + 1; omega))
    refine (t1.app t2).app (Pre.one (Or.inr (Or.inr (Or.inr (Or.inr (Or.inr (Or.inr (Or.inr (Or.inr (Or.inr (Or.inr ⟨false, true, T, ?_, rfl, rfl, rfl⟩)))))))))) (by omega) (by show T.length + 1 ≤ 400; omega))
    rw [← Nat.add_assoc, show (zs (updF cg' e2 v)).1 19 e2 = v from upd_eq _ _ _]
    show ((coS _ (c + n' + n2) k 0 0).1 18 (c + n' + n2), v, false, true) ∈ bins
    rw [(coS_v _ _ _ _ _).1]; exact hb
theorem sm_sin {N F S d : Nat} {R V : XS → Bool × XS} {T Z Sg : XS → Option (Bool × XS)} (hR : d < 8 → Sm true R Z N F S (d + 1)) (hT : d < 8 → Sm true (testU R) T N F S (d + 1)) (hV : Sm false (sumU V) Sg N F S d) (hd : d ≤ 8) : Sm true (sinS (nI d) R V) (f_X10_isSingle T Z Sg) N F S d := by
  intro x z cf p c e o hs hc he ho
  have hN := hs.N
  have z9 := hs.z9
  have hp : p < 401 := by omega
  have hin : inB (z.1 0 9) 401 = true := by rw [z9]; exact inB_nI hp (by decide)
  have nk : ∀ a b, (a, b) ∈ KM → curK x ≠ a → z.1 2 p ≠ b := fun a b m h q => h ((hs.kz a b m).mpr q)
  unfold f_X10_isSingle
  by_cases h : curK x = 323
  · have q := (hs.kz 323 23 (by decide)).mp h
    have e1 : sinS (nI d) R V x = (let t := deepU x 323 (nI d); if t.1 then (let s := R t.2; if s.1 then (true, addCoF s.2 323 0 0) else (false, s.2)) else (false, t.2)) := by
      unfold sinS; dsimp only; rw [h, if_neg (by decide), if_neg (by decide), if_neg (by decide), if_neg (by decide), if_pos rfl]
    rw [e1, is_t z9 hp q, obT]
    dsimp only
    rcases Nat.lt_or_ge d 8 with hd8 | hd8
    · rw [deepU_t h hd8, deep_t z9 hs.2.2.2.2.2.2.2.2.1 hd8, obT]
      dsimp only
      rw [if_pos rfl]
      exact sm_neg hs hc he ho h (by decide) (by decide) hd8 (hR hd8) (fun y cg pl nx a b T => Or.inr (Or.inr (Or.inr (Or.inr (Or.inr (Or.inr (Or.inr (Or.inr (Or.inr (Or.inl ⟨a, b, rfl, T, rfl, rfl⟩))))))))))
    · have : d = 8 := by omega
      subst this
      rw [deepU_f, deep_f hs.2.2.2.2.2.2.2.2.1, obF]
      exact Or.inl ⟨z, rfl, rfl, (Go.refl hs).fl⟩
  rw [is_f z9 hp (nk 323 23 (by decide) h), obF]
  dsimp only
  by_cases h1 : curK x = 91
  · have q : z.1 2 p = 50 + 91 := (hs.kz 91 141 (by decide)).mp h1
    have e1 : sinS (nI d) R V x = (let t := deepU x 91 (nI d); if t.1 then (let s := testU R t.2; if s.1 then takeU s.2 93 else (false, s.2)) else (false, t.2)) := by
      unfold sinS; dsimp only; rw [h1, if_pos rfl]
    rw [e1, sg_is, is_t z9 hp q, obT]
    dsimp only
    rcases Nat.lt_or_ge d 8 with hd8 | hd8
    · rw [deepU_t h1 hd8, deep_t z9 hs.2.2.2.2.2.2.2.2.1 hd8, obT]
      dsimp only
      rw [if_pos rfl]
      simp only [ob_pair, eatSign_eq]
      exact sm_brack hs hc he ho h1 (by decide) (by decide) hd8 (hT hd8) (show ((93 : Int32), (50 + 93 : Int32)) ∈ KM by decide) (by decide) (by decide)
    · have : d = 8 := by omega
      subst this
      rw [deepU_f, deep_f hs.2.2.2.2.2.2.2.2.1, obF]
      exact Or.inl ⟨z, rfl, rfl, (Go.refl hs).fl⟩
  have n91 : z.1 2 p ≠ 50 + 91 := nk 91 141 (by decide) h1
  rw [sg_is, is_f z9 hp n91, obF]
  dsimp only
  by_cases h2 : curK x = 320
  · have q := (hs.kz 320 20 (by decide)).mp h2
    have e1 : sinS (nI d) R V x = (let s := knownU (adv x) 36 20 ((adv x).1 8 1); (if s.1 < 0 then false else true, addCoF s.2 320 s.1 0)) := by
      unfold sinS; dsimp only; rw [h2, if_neg (by decide), if_neg (by decide), if_pos rfl]
    rw [e1, is_t z9 hp q, obT, ob_pair]
    exact sin_stands hs hc he ho h2
  rw [is_f z9 hp (nk 320 20 (by decide) h2), obF]
  dsimp only
  by_cases h3 : curK x = 319
  · have q := (hs.kz 319 19 (by decide)).mp h3
    have e1 : sinS (nI d) R V x = (let c := claimU (adv x); (if c.1 < 0 then false else true, addCoF c.2 319 c.1 0)) := by
      unfold sinS; dsimp only; rw [h3, if_neg (by decide), if_pos rfl]
    rw [e1, is_t z9 hp q, obT, hin, og_tr, ob_pair, z9, nI_clamp (by omega), q]
    exact sin_possible hs hc he ho h3
  rw [is_f z9 hp (nk 319 19 (by decide) h3), obF]
  dsimp only
  by_cases h4 : curK x = 321
  · have q := (hs.kz 321 21 (by decide)).mp h4
    have e1 : sinS (nI d) R V x = (let c := claimU (adv x); let r := frU c; (if r.1 < 0 then false else true, addCoF r.2 321 c.1 r.1)) := by
      unfold sinS; dsimp only; rw [h4, if_neg (by decide), if_neg (by decide), if_neg (by decide), if_pos rfl]
    rw [e1, is_t z9 hp q, obT, hin, og_tr, ob_pair, z9, nI_clamp (by omega), q]
    exact sin_follows hs hc he ho h4
  rw [is_f z9 hp (nk 321 21 (by decide) h4), obF]
  dsimp only
  have e1 : sinS (nI d) R V x = (let s1 := sumU V x
    if s1.1 then
      (if cmpK (curK s1.2) then
        let s2 := sumU V (adv s1.2)
        if s2.1 then (true, addCoF s2.2 (curK s1.2) 0 0) else (false, s2.2)
      else (false, s1.2))
    else (false, s1.2)) := by
    unfold sinS; dsimp only; rw [if_neg h1, if_neg h3, if_neg h2, if_neg h4, if_neg h]
  rw [e1]
  dsimp only
  rcases hV x z cf p c e o hs hc he ho with ⟨w, g1, g2, g3⟩ | ⟨w, g1, g2, g3⟩
  · rw [g1, obF, g2, if_neg (by decide)]
    exact Or.inl ⟨w, rfl, rfl, g3⟩
  · rw [g1, obT, g2, if_pos rfl]
    dsimp only
    have hk3 := g3
    obtain ⟨cg, p', n', e', o', l1, l2, l3, l4, l5, l6⟩ := hk3
    have s1 := l5.st
    have hN1 := s1.N
    have y9 := s1.z9
    have hp1 : p' < 401 := by omega
    have nk1 : ∀ a b, (a, b) ∈ KM → curK (sumU V x).2 ≠ a → w.1 2 p' ≠ b := fun a b m h q => h ((s1.kz a b m).mpr q)
    by_cases c1 : curK (sumU V x).2 = 60
    · have q : w.1 2 p' = 50 + 60 := (s1.kz 60 110 (by decide)).mp c1
      rw [if_pos (show cmpK (curK (sumU V x).2) = true by rw [c1]; decide), sg_is, is_t y9 hp1 q, obT]
      exact cmp_two hc he ho g3 hV c1 (by decide) (by decide) (by decide)
    have q1 : w.1 2 p' ≠ 50 + 60 := nk1 60 110 (by decide) c1
    rw [sg_is, is_f y9 hp1 q1, obF]
    dsimp only
    by_cases c2 : curK (sumU V x).2 = 62
    · have q : w.1 2 p' = 50 + 62 := (s1.kz 62 112 (by decide)).mp c2
      rw [if_pos (show cmpK (curK (sumU V x).2) = true by rw [c2]; decide), sg_is, is_t y9 hp1 q, obT]
      exact cmp_two hc he ho g3 hV c2 (by decide) (by decide) (by decide)
    have q2 : w.1 2 p' ≠ 50 + 62 := nk1 62 112 (by decide) c2
    rw [sg_is, is_f y9 hp1 q2, obF]
    dsimp only
    by_cases c3 : curK (sumU V x).2 = 61
    · have q : w.1 2 p' = 50 + 61 := (s1.kz 61 111 (by decide)).mp c3
      rw [if_pos (show cmpK (curK (sumU V x).2) = true by rw [c3]; decide), sg_is, is_t y9 hp1 q, obT]
      exact cmp_two hc he ho g3 hV c3 (by decide) (by decide) (by decide)
    have q3 : w.1 2 p' ≠ 50 + 61 := nk1 61 111 (by decide) c3
    rw [sg_is, is_f y9 hp1 q3, obF]
    dsimp only
    by_cases c4 : curK (sumU V x).2 = 256
    · rw [if_pos (show cmpK (curK (sumU V x).2) = true by rw [c4]; decide), is_t y9 hp1 ((s1.kz 256 300 (by decide)).mp c4), obT]
      exact cmp_two hc he ho g3 hV c4 (by decide) (by decide) (by decide)
    rw [is_f y9 hp1 (nk1 256 300 (by decide) c4), obF]
    dsimp only
    by_cases c5 : curK (sumU V x).2 = 257
    · rw [if_pos (show cmpK (curK (sumU V x).2) = true by rw [c5]; decide), is_t y9 hp1 ((s1.kz 257 301 (by decide)).mp c5), obT]
      exact cmp_two hc he ho g3 hV c5 (by decide) (by decide) (by decide)
    rw [is_f y9 hp1 (nk1 257 301 (by decide) c5), obF]
    rw [if_neg (show ¬ cmpK (curK (sumU V x).2) = true by unfold cmpK; rw [decide_eq_false (fun q => q.elim c1 (fun q => q.elim c2 (fun q => q.elim c3 (fun q => q.elim c4 c5))))]; decide)]
    exact Or.inl ⟨w, rfl, rfl, l5.fl⟩
theorem ops_hC {op : Int32} {R : XS → Bool × XS} {v1 : Int32} : (∀ n x v, (if curK x = op then some v1 else none) = some v → opsL op R (n + 1) x = if (R (adv x)).1 then opsL op R n (addCoF (R (adv x)).2 (curK x) 0 0) else (false, (R (adv x)).2)) ∧
    (∀ n x, (if curK x = op then some v1 else none) = none → opsL op R (n + 1) x = (true, x)) := by
  refine ⟨fun n x v h => ?_, fun n x h => ?_⟩
  · by_cases h1 : curK x = op
    · rw [opsL, take_t h1, h1]; dsimp only; rw [if_pos rfl]
    · rw [if_neg h1] at h; exact absurd h (by simp)
  · by_cases h1 : curK x = op
    · rw [if_pos h1] at h; exact absurd h (by simp)
    · rw [opsL, take_f h1]; dsimp only; rw [if_neg (by decide)]
theorem sm_both {N F S d : Nat} {R : XS → Bool × XS} {P : XS → Option (Bool × XS)} (hR : Sm true R P N F S d) : Sm true (opsU 324 R) (f_X10_isBoth P) N F S d := by
  refine chain0 hR (fun k => if k = 324 then some 24 else none) ?_ (fun _ => rfl) ops_hC.1 ops_hC.2 ?_ ?_ (CC := opsL 324 R) (GG := f_X10_isBoth_L9 P)
  · intro k v h
    by_cases h1 : k = 324
    · rw [if_pos h1] at h; injection h with h; subst h; subst h1; decide
    · rw [if_neg h1] at h; exact absurd h (by simp)
  · intro n z p a v hz hp hk h
    by_cases h1 : a = 324
    · rw [if_pos h1] at h; injection h with h
      rw [f_X10_isBoth_L9, eat_t hz hp ((km_iff hk (show ((324 : Int32), (24 : Int32)) ∈ KM by decide)).mp h1), obT, h]
    · rw [if_neg h1] at h; exact absurd h (by simp)
  · intro n z p a hz hp hk h
    by_cases h1 : a = 324
    · rw [if_pos h1] at h; exact absurd h (by simp)
    · rw [f_X10_isBoth_L9, eat_f hz hp (fun q => h1 ((km_iff hk (show ((324 : Int32), (24 : Int32)) ∈ KM by decide)).mpr q)), obF]
theorem sm_test1 {N F S d : Nat} {R : XS → Bool × XS} {P : XS → Option (Bool × XS)} (hR : Sm true R P N F S d) : Sm true (opsU 306 R) (f_X10_isTest P) N F S d := by
  refine chain0 hR (fun k => if k = 306 then some 6 else none) ?_ (fun _ => rfl) ops_hC.1 ops_hC.2 ?_ ?_ (CC := opsL 306 R) (GG := f_X10_isTest_L9 P)
  · intro k v h
    by_cases h1 : k = 306
    · rw [if_pos h1] at h; injection h with h; subst h; subst h1; decide
    · rw [if_neg h1] at h; exact absurd h (by simp)
  · intro n z p a v hz hp hk h
    by_cases h1 : a = 306
    · rw [if_pos h1] at h; injection h with h
      rw [f_X10_isTest_L9, eat_t hz hp ((km_iff hk (show ((306 : Int32), (6 : Int32)) ∈ KM by decide)).mp h1), obT, h]
    · rw [if_neg h1] at h; exact absurd h (by simp)
  · intro n z p a hz hp hk h
    by_cases h1 : a = 306
    · rw [if_pos h1] at h; exact absurd h (by simp)
    · rw [f_X10_isTest_L9, eat_f hz hp (fun q => h1 ((km_iff hk (show ((306 : Int32), (6 : Int32)) ∈ KM by decide)).mpr q)), obF]
theorem sm_test {N F S d : Nat} {R : XS → Bool × XS} {P : XS → Option (Bool × XS)} (hR : Sm true R P N F S d) : Sm true (testU R) (f_X10_isTest (f_X10_isBoth P)) N F S d := sm_test1 (sm_both hR)
theorem sm_sins {N F S : Nat} : ∀ f, f ≤ 8 → Sm true (sinU f) (lvR (f + 2)).2.1 N F S (8 - f)
  | 0, _ => sm_sin (fun h => absurd h (by omega)) (fun h => absurd h (by omega)) (sm_sums 0 (by omega)) (Nat.le_refl 8)
  | f + 1, hf => by
    have ih := sm_sins (N := N) (F := F) (S := S) f (by omega)
    have hv := sm_sums (N := N) (F := F) (S := S) (f + 1) hf
    rw [show 8 - (f + 1) = 7 - f by omega] at hv ⊢
    rw [show 8 - f = 7 - f + 1 by omega] at ih
    exact sm_sin (d := 7 - f) (fun _ => ih) (fun _ => sm_test ih) hv (by omega)
theorem sm_tests {N F S : Nat} : Sm true (testU (sinU 8)) (lvR 10).1 N F S 0 := sm_test (sm_sins 8 (by omega))
