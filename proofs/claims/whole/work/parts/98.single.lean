/-! Values by depth; one test -/
theorem sm_val {N F S d : Nat} {R : XS → Bool × XS} {V : XS → Option (Bool × XS)} (hd : d ≤ 8) (hR : d < 8 → Sm false R V N F S (d + 1)) : Sm false (valS (nI d) R) (f_X10_isValue (f_X10_isSum (f_X10_isProduct V)) V) N F S d := by
  intro x z cf p c e o hs hc he ho
  have hN := hs.N
  have z9 := hs.z9
  have hp : p < 401 := by omega
  have hin : inB (z.1 0 9) 401 = true := by rw [z9]; exact inB_nI hp (by decide)
  have nk : ∀ a b, (a, b) ∈ KM → curK x ≠ a → z.1 2 p ≠ b := fun a b m h q => h ((hs.kz a b m).mpr q)
  have hck := hs.ck
  unfold f_X10_isValue
  rw [hin, og_tr]
  by_cases h : curK x = 259
  · have e1 : valS (nI d) R x = (true, adv (addCoF x 259 (valueAtF x (x.1 34 4)).toInt32 0)) := by
      unfold valS; dsimp only; rw [h, if_neg (by decide), if_neg (by decide), if_pos rfl]
    rw [e1, is_t z9 hp ((hs.kz 259 41 (by decide)).mp h), obT]
    exact val_num hs hc he ho h
  have n41 := nk 259 41 (by decide) h
  rw [is_f z9 hp n41, obF]
  by_cases h1 : curK x = 315
  · have e1 : valS (nI d) R x = (true, adv (addCoF x 315 (valueAtF x (x.1 34 4)).toInt32 0)) := by
      unfold valS; dsimp only; rw [h1, if_neg (by decide), if_neg (by decide), if_neg (by decide), if_pos rfl]
    have q := (hs.kz 315 15 (by decide)).mp h1
    rw [e1, is_t z9 hp q, obT]
    exact val_word hs hc he ho h1 (by decide) (by decide) q _ (fun y cg a b T => Or.inr (Or.inr (Or.inl ⟨a, b, rfl, rfl⟩)))
  have n15 := nk 315 15 (by decide) h1
  rw [is_f z9 hp n15, obF]
  by_cases h2 : curK x = 316
  · have e1 : valS (nI d) R x = (true, adv (addCoF x 316 (valueAtF x (x.1 34 4)).toInt32 0)) := by
      unfold valS; dsimp only; rw [h2, if_neg (by decide), if_neg (by decide), if_neg (by decide), if_neg (by decide), if_pos rfl]
    have q := (hs.kz 316 16 (by decide)).mp h2
    rw [e1, is_t z9 hp q, obT]
    exact val_word hs hc he ho h2 (by decide) (by decide) q _ (fun y cg a b T => Or.inr (Or.inr (Or.inr (Or.inl ⟨a, b, rfl, rfl⟩))))
  have n16 := nk 316 16 (by decide) h2
  rw [is_f z9 hp n16, obF]
  by_cases h3 : curK x = 317
  · have e1 : valS (nI d) R x = (true, adv (addCoF x 317 (valueAtF x (x.1 34 4)).toInt32 0)) := by
      unfold valS; dsimp only; rw [h3, if_neg (by decide), if_neg (by decide), if_neg (by decide), if_neg (by decide), if_neg (by decide), if_pos rfl]
    have q := (hs.kz 317 17 (by decide)).mp h3
    rw [e1, is_t z9 hp q, obT]
    exact val_word hs hc he ho h3 (by decide) (by decide) q _ (fun y cg a b T => Or.inr (Or.inr (Or.inr (Or.inr (Or.inl ⟨a, b, rfl, rfl⟩)))))
  have n17 := nk 317 17 (by decide) h3
  rw [is_f z9 hp n17, obF]
  by_cases h4 : curK x = 318
  · have e1 : valS (nI d) R x = (true, adv (addCoF x 318 (valueAtF x (x.1 34 4)).toInt32 0)) := by
      unfold valS; dsimp only; rw [h4, if_neg (by decide), if_neg (by decide), if_neg (by decide), if_neg (by decide), if_neg (by decide), if_neg (by decide), if_pos rfl]
    have q := (hs.kz 318 18 (by decide)).mp h4
    rw [e1, is_t z9 hp q, obT]
    exact val_word hs hc he ho h4 (by decide) (by decide) q _ (fun y cg a b T => Or.inr (Or.inr (Or.inr (Or.inr (Or.inr (Or.inl ⟨a, b, rfl, rfl⟩))))))
  have n18 := nk 318 18 (by decide) h4
  rw [is_f z9 hp n18, obF]
  dsimp only
  by_cases h5 : curK x = 45
  · have e1 : valS (nI d) R x = (let t := deepU x 45 (nI d); if t.1 then (let s := R t.2; if s.1 then (true, addCoF s.2 262 0 0) else (false, s.2)) else (false, t.2)) := by
      unfold valS; dsimp only; rw [h5, if_neg (by decide), if_pos rfl]
    have q : z.1 2 p = 50 + 45 := (hs.kz 45 95 (by decide)).mp h5
    rw [e1, sg_is, is_t z9 hp q, obT]
    dsimp only
    rcases Nat.lt_or_ge d 8 with hd8 | hd8
    · rw [deepU_t h5 hd8, deep_t z9 hs.2.2.2.2.2.2.2.2.1 hd8, obT]
      dsimp only
      rw [if_pos rfl]
      exact sm_neg hs hc he ho h5 (by decide) (by decide) hd8 (hR hd8) (fun y cg pl nx a b T => Or.inr (Or.inl ⟨a, b, rfl, T, rfl, rfl⟩))
    · have : d = 8 := by omega
      subst this
      rw [deepU_f, deep_f hs.2.2.2.2.2.2.2.2.1, obF]
      exact Or.inl ⟨z, rfl, rfl, (Go.refl hs).fl⟩
  have n45 : z.1 2 p ≠ 50 + 45 := nk 45 95 (by decide) h5
  rw [sg_is, is_f z9 hp n45, obF]
  dsimp only
  by_cases h6 : curK x = 325
  · have q := (hs.kz 325 25 (by decide)).mp h6
    rw [eat_t z9 hp q, obT, ob_pair, z9, nI_clamp (by omega), q]
    have e1 : valS (nI d) R x = (let t := deepU (adv x) 40 (nI d)
      if t.1 then
      let s1 := sumU R t.2
      if s1.1 then
        let c := takeU s1.2 44
        if c.1 then
          let s2 := sumU R c.2
          if s2.1 then
            let e := takeU s2.2 41
            if e.1 then (true, addCoF e.2 325 0 0) else (false, e.2)
          else (false, s2.2)
        else (false, c.2)
      else (false, s1.2)
    else (false, t.2)) := by
      unfold valS; dsimp only; rw [h6, if_neg (by decide), if_neg (by decide), if_neg (by decide), if_neg (by decide), if_neg (by decide), if_neg (by decide), if_neg (by decide), if_pos (by decide)]
    rw [e1]
    exact sm_two hs hc he ho h6 (by decide) (by decide) hd (fun h => sm_sum (hR h)) (by decide)
  have n25 := nk 325 25 (by decide) h6
  rw [eat_f z9 hp n25, obF]
  dsimp only
  by_cases h7 : curK x = 326
  · have q := (hs.kz 326 26 (by decide)).mp h7
    rw [eat_t z9 hp q, obT, ob_pair, z9, nI_clamp (by omega), q]
    have e1 : valS (nI d) R x = (let t := deepU (adv x) 40 (nI d)
      if t.1 then
      let s1 := sumU R t.2
      if s1.1 then
        let c := takeU s1.2 44
        if c.1 then
          let s2 := sumU R c.2
          if s2.1 then
            let e := takeU s2.2 41
            if e.1 then (true, addCoF e.2 326 0 0) else (false, e.2)
          else (false, s2.2)
        else (false, c.2)
      else (false, s1.2)
    else (false, t.2)) := by
      unfold valS; dsimp only; rw [h7, if_neg (by decide), if_neg (by decide), if_neg (by decide), if_neg (by decide), if_neg (by decide), if_neg (by decide), if_neg (by decide), if_pos (by decide)]
    rw [e1]
    exact sm_two hs hc he ho h7 (by decide) (by decide) hd (fun h => sm_sum (hR h)) (by decide)
  have n26 := nk 326 26 (by decide) h7
  rw [eat_f z9 hp n26, obF, ob_pair]
  unfold f_X10_isInside
  dsimp only
  by_cases h8 : curK x = 40
  · have e1 : valS (nI d) R x = (let t := deepU x 40 (nI d); if t.1 then (let s := sumU R t.2; if s.1 then takeU s.2 41 else (false, s.2)) else (false, t.2)) := by
      unfold valS; dsimp only; rw [h8, if_pos rfl]
    have q : z.1 2 p = 50 + 40 := (hs.kz 40 90 (by decide)).mp h8
    rw [e1, sg_is, is_t z9 hp q, obT]
    dsimp only
    rcases Nat.lt_or_ge d 8 with hd8 | hd8
    · rw [deepU_t h8 hd8, deep_t z9 hs.2.2.2.2.2.2.2.2.1 hd8, obT]
      dsimp only
      rw [if_pos rfl]
      simp only [ob_pair, eatSign_eq, if_pos]
      exact sm_brack hs hc he ho h8 (by decide) (by decide) hd8 (sm_sum (hR hd8)) (show ((41 : Int32), (50 + 41 : Int32)) ∈ KM by decide) (by decide) (by decide)
    · have : d = 8 := by omega
      subst this
      rw [deepU_f, deep_f hs.2.2.2.2.2.2.2.2.1, obF]
      exact Or.inl ⟨z, rfl, rfl, (Go.refl hs).fl⟩
  have n40 : z.1 2 p ≠ 50 + 40 := nk 40 90 (by decide) h8
  have e1 : valS (nI d) R x = (false, x) := by
    unfold valS; dsimp only; rw [if_neg h8, if_neg h5, if_neg h, if_neg h1, if_neg h2, if_neg h3, if_neg h4, if_neg (fun q => q.elim h6 h7)]
  rw [e1, sg_is, is_f z9 hp n40, obF]
  exact Or.inl ⟨z, rfl, rfl, (Go.refl hs).fl⟩
theorem sm_vals {N F S : Nat} : ∀ f, f ≤ 8 → Sm false (valU f) (lvR (f + 2)).2.2.2 N F S (8 - f)
  | 0, _ => sm_val (Nat.le_refl 8) (fun h => absurd h (by omega))
  | f + 1, hf => by
    have ih := sm_vals (N := N) (F := F) (S := S) f (by omega)
    have := sm_val (N := N) (F := F) (S := S) (d := 7 - f) (R := valU f) (V := (lvR (f + 2)).2.2.2) (by omega) (fun _ => by rw [show 7 - f + 1 = 8 - f by omega]; exact ih)
    rw [show 8 - (f + 1) = 7 - f by omega]
    exact this
theorem sm_sums {N F S : Nat} (f : Nat) (hf : f ≤ 8) : Sm false (sumU (valU f)) (lvR (f + 2)).2.2.1 N F S (8 - f) := sm_sum (sm_vals f hf)
theorem coF_n {y : XS} {op f s : Int32} {q k : Nat} (h : ¬ (8 ≤ q ∧ q ≤ 20)) : (addCoF y op f s).1 q k = y.1 q k := by
  unfold addCoF
  split
  · rfl
  · split
    · rfl
    · rw [rdI_ne (by omega), rdI_ne (by omega), rdI_ne (by omega), rdI_ne (by omega)]
theorem coF_2 {y : XS} {op f s : Int32} : (addCoF y op f s).2 = y.2 := by
  unfold addCoF
  split
  · rfl
  · split <;> rfl
theorem Fl.co {N : Nat} {x z y w : XS} (op f s : Int32) (h : Fl N x z y w) : Fl N x z (addCoF y op f s) w := by
  obtain ⟨⟨p', a, b, c⟩, d, e, g⟩ := h
  exact ⟨⟨p', a, by rw [coF_n (by omega)]; exact b, c⟩, fun q k u v => by rw [coF_n v]; exact d q k u v, fun q k u v => by rw [coF_2]; exact e q k u v, g⟩
theorem sin_stands {N F S d : Nat} {x z : XS} {cf : Nat → Int32} {p c e o : Nat} (hs : St N F S x z cf p c e o d) (hc : c ≤ p) (he : e ≤ 2 * p) (ho : o ≤ p) (hk : curK x = 320) :
    Re true N F S x z cf p c e o d (let s := knownU (adv x) 36 20 ((adv x).1 8 1); (if s.1 < 0 then false else true, addCoF s.2 320 s.1 0)) (f_X10_isNamed 8 z) := by
  have hN := hs.N
  have z9 := hs.z9
  have hp := hs.nx hk (by decide) (by decide)
  have q := (hs.kz 320 20 (by decide)).mp hk
  unfold f_X10_isNamed
  rw [z9, inB_nI (show p < 401 by omega) (by decide), og_tr, nI_clamp (by omega), q]
  obtain ⟨r1, r2⟩ := st_put hs (show e < 800 by omega) 20
  have a := st_adv r2.st hp
  have hs1 := a.st
  rw [r1, ob_some1, r2.st.z9, show nI p + 1 = nI (p + 1) from nI_addN p 1, ob_pair]
  dsimp only
  by_cases hk1 : curK (adv x) = 258
  · have hfi : (adv x).1 34 5 = 0 → findF (adv x) 36 20 ((adv x).1 8 1) ((adv x).2 7 (p + 1)) = tl ((setI (putS z e 20) 0 9 (nI (p + 1))).1 5) ((adv x).2 7) 2 ((adv x).2 7 (p + 1)) (p + 1) ∧ cn ((setI (putS z e 20) 0 9 (nI (p + 1))).1 5) 2 (p + 1) = S := fun h5 => stm_find (by omega) (hs1.md.fam h5).2 _
    obtain ⟨n1, n2, n3, n4⟩ := st_name hs1 (hs1.ck.symm.trans hk1) (by omega) (by omega) (Or.inr rfl) hfi (fun _ => er8) (fun _ => mn8)
    obtain ⟨j, j1, j2⟩ := find_max (x := adv x) (q := 36) (n := 20) (c := (adv x).1 8 1) (v := (adv x).2 7 (p + 1)) (by decide)
    rw [n1, n2, j2, if_neg (nI_nn (by omega))]
    obtain ⟨q1, q2⟩ := st_co n3.st (show c < 400 by omega) 320 (nI j) 0
    rw [q1]
    refine Or.inr ⟨_, rfl, rfl, _, p + 2, 1, e + 2, o + 1, by omega, by omega, by omega, by omega, ((r2.trans a).trans n3).trans q2, fun h5 T hT => Pre.one (Or.inr (Or.inr (Or.inr (Or.inr (Or.inr (Or.inr (Or.inr (Or.inl ⟨?_, ?_, rfl, rfl, ?_⟩)))))))) (by omega) (by show T.length + 1 ≤ 400; omega)⟩
    · exact (coS_v _ c 320 (nI j) 0).1
    · show updF (updF cf e 20) (e + 1) _ e = 20
      rw [upd_ne _ _ (by omega), upd_eq]
    · obtain ⟨k, k1, k2, k3⟩ := n4 (q2.fr.2.2.2.2.2.2.2 h5)
      refine ⟨k, k1, ?_, ?_⟩
      · show (coS _ c 320 (nI j) 0).1 19 c = nI k
        rw [(coS_v _ _ _ _ _).2.1, ← j2, k2]
        have := hs1.N
        have := cn_le ((setI (putS z e 20) 0 9 (nI (p + 1))).1 5) 2 (p + 1)
        have h5' : (adv x).1 34 5 = 0 := n3.fr.2.2.2.2.2.2.2 (q2.fr.2.2.2.2.2.2.2 h5)
        have := (hfi h5').2
        exact maxI_n (by omega)
      · show updF _ (e + 1) _ (e + 1) = nI k
        rw [upd_eq]; exact k3
  · obtain ⟨w, w1, w2⟩ := nm_f hs1 hk1 (show e + 1 < 800 by omega) (show o < 400 by omega) 8
    rw [w1, known_f _ _ _ hk1]
    exact Or.inl ⟨w, rfl, rfl, (w2.after (r2.trans a).fr.wf).co _ _ _⟩
