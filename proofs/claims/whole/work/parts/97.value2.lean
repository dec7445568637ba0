/-! A value: number, word, negated, in brackets, smaller or greater of two -/
theorem upd_eq (cf : Nat → Int32) (e : Nat) (v : Int32) : updF cf e v e = v := if_pos rfl
theorem upd_ne (cf : Nat → Int32) {e i : Nat} (v : Int32) (h : i ≠ e) : updF cf e v i = cf i := if_neg h
theorem val_num {N F S d : Nat} {x z : XS} {cf : Nat → Int32} {p c e o : Nat} (hs : St N F S x z cf p c e o d) (hc : c ≤ p) (he : e ≤ 2 * p) (_ : o ≤ p) (hk : curK x = 259) :
    Re false N F S x z cf p c e o d (true, adv (addCoF x 259 (valueAtF x (x.1 34 4)).toInt32 0)) (ob (f_X10_put 32 z) (fun u22 => ob (f_X10_numberAt (u22.1 0 9) u22) (fun u31 => ob (f_X10_put u31.1 u31.2) (fun u34 => some (true, (setI u34 0 9 ((u34.1 0 9) + 1))))))) := by
  have hN := hs.N
  have hp := hs.nx hk (by decide) (by decide)
  obtain ⟨q1, q2⟩ := st_co hs (show c < 400 by omega) 259 (x.2 7 p).toInt32 0
  obtain ⟨r1, r2⟩ := st_put q2.st (show e < 800 by omega) 32
  have hn := r2.st.1.2.2.2.2.2.2 p r2.st.2.1 (by rw [← r2.st.ck]; exact (curK_ok r2.st.1 r2.st.2.1 r2.st.2.2.1).trans (by rw [← r2.st.ck, r2.st.ck]; show (coS x c 259 (x.2 7 p).toInt32 0).1 5 p = 259; rw [coS_n (by omega) (by omega), ← hs.ck]; exact hk)) _ (fun _ _ _ _ => rfl)
  obtain ⟨s1, s2⟩ := st_put r2.st (show e + 1 < 800 by omega) (x.2 7 p).toInt32
  have a := st_adv s2.st hp
  have hx7 : (coS x c 259 (x.2 7 p).toInt32 0).2 7 p = x.2 7 p := rfl
  rw [hx7] at hn
  rw [r1, ob_some1, r2.st.z9, hn, ob_some1, s1, ob_some1, s2.st.z9, show nI p + 1 = nI (p + 1) from nI_addN p 1, curV_ok hs.1 hs.2.1 hs.2.2.1, q1]
  have hall := ((q2.trans r2).trans s2).trans a
  refine Or.inr ⟨_, rfl, rfl, _, p + 1, 1, e + 2, o, by omega, by omega, by omega, by omega, hall, fun h5 T hT => Pre.one (Or.inl ⟨?_, ?_, ?_, rfl, rfl⟩) (by omega) (by show T.length + 1 ≤ 400; omega)⟩
  · show (adv (coS x c 259 (x.2 7 p).toInt32 0)).1 18 c = 259
    rw [(adv_x q2.st.2.2.1), rdI_ne (by decide)]; exact (coS_v _ _ _ _ _).1
  · show updF (updF cf e 32) (e + 1) _ e = 32
    rw [upd_ne _ _ (by omega), upd_eq]
  · show (adv (coS x c 259 (x.2 7 p).toInt32 0)).1 19 c = updF (updF cf e 32) (e + 1) _ (e + 1)
    rw [upd_eq, (adv_x q2.st.2.2.1), rdI_ne (by decide)]; exact (coS_v _ _ _ _ _).2.1
theorem val_word {N F S d : Nat} {x z : XS} {cf : Nat → Int32} {p c e o : Nat} (hs : St N F S x z cf p c e o d) (hc : c ≤ p) (he : e ≤ 2 * p) (_ : o ≤ p) {kd v : Int32} (hk : curK x = kd) (hk0 : kd ≠ 260) (hk1 : kd ≠ 261) (hv : z.1 2 p = v) (f : Int32)
    (hI : ∀ y cg, y.1 18 c = kd → cg e = v → ∀ T, ItX (xs y) (zs cg) F S c e (e + 1) T (false :: T)) :
    Re false N F S x z cf p c e o d (true, adv (addCoF x kd f 0)) (ob (f_X10_put (z.1 2 (z.1 0 9).toNatClampNeg) z) (fun u87 => some (true, (setI u87 0 9 ((u87.1 0 9) + 1))))) := by
  have hN := hs.N
  have hp := hs.nx hk hk0 hk1
  obtain ⟨q1, q2⟩ := st_co hs (show c < 400 by omega) kd f 0
  obtain ⟨r1, r2⟩ := st_put q2.st (show e < 800 by omega) v
  have a := st_adv r2.st hp
  rw [hs.z9, nI_clamp (by omega), hv, r1, ob_some1, r2.st.z9, show nI p + 1 = nI (p + 1) from nI_addN p 1, q1]
  refine Or.inr ⟨_, rfl, rfl, _, p + 1, 1, e + 1, o, by omega, by omega, by omega, by omega, (q2.trans r2).trans a, fun h5 T hT => Pre.one (hI _ _ ?_ ?_ T) (by omega) (by show T.length + 1 ≤ 400; omega)⟩
  · rw [(adv_x q2.st.2.2.1), rdI_ne (by decide)]; exact (coS_v _ _ _ _ _).1
  · exact upd_eq _ _ _
/-- what stands in brackets -/
theorem sm_brack {b : Bool} {N F S d : Nat} {x z : XS} {cf : Nat → Int32} {p c e o : Nat} (hs : St N F S x z cf p c e o d) (hc : c ≤ p) (he : e ≤ 2 * p) (ho : o ≤ p) {k1 k2 w2 : Int32} (hk : curK x = k1) (hk0 : k1 ≠ 260) (hk1 : k1 ≠ 261) (_ : d < 8) {C : XS → Bool × XS} {G : XS → Option (Bool × XS)} (hC : Sm b C G N F S (d + 1)) (hw : (k2, w2) ∈ KM) (h20 : k2 ≠ 260) (h21 : k2 ≠ 261) :
    Re b N F S x z cf p c e o d (if (C (adv x)).1 then takeU (C (adv x)).2 k2 else (false, (C (adv x)).2)) (ob (G (setI (setI z 0 10 (nI (d + 1))) 0 9 (nI (p + 1)))) (fun u17 => (if (b2i u17.1) = 0 then some (false, u17.2) else f_X10_eat w2 (setI u17.2 0 10 ((u17.2.1 0 10) - 1))))) := by
  have hN := hs.N
  have hp := hs.nx hk hk0 hk1
  have a := st_deep hs hp
  rcases hC _ _ cf (p + 1) c e o a.st (by omega) (by omega) (by omega) with ⟨w, g1, g2, g3⟩ | ⟨w, g1, g2, cg, p', n', e', o', l1, l2, l3, l4, l5, l6⟩
  · rw [g1, obF, g2, if_neg (by decide)]
    exact Or.inl ⟨w, rfl, rfl, g3.after a.fr.wf⟩
  · rw [g1, obT, g2, if_pos rfl]
    have s1 := l5.st
    have u := st_dep d s1
    rw [up_eq s1]
    have hN1 := s1.N
    by_cases h : curK (C (adv x)).2 = k2
    · have hp' := u.st.nx h h20 h21
      rw [take_t h, eat_t u.st.z9 (by omega) ((u.st.kz k2 w2 hw).mp h)]
      have v := st_adv u.st hp'
      refine Or.inr ⟨_, rfl, rfl, cg, p' + 1, n', e', o', by omega, by omega, by omega, by omega, ((a.trans l5).trans u).trans v, fun h5 T hT => ?_⟩
      have f5 := v.fr.2.2.2.2.2.2.2 h5
      exact v.pre (Nat.le_refl _) (l6 f5 T (by omega))
    · rw [take_f h, eat_f u.st.z9 (by omega) (fun q => h ((u.st.kz k2 w2 hw).mpr q))]
      exact Or.inl ⟨_, rfl, rfl, ((a.trans l5).trans u).fl⟩
/-- what stands behind a sign or a word that changes it -/
theorem sm_neg {b : Bool} {N F S d : Nat} {x z : XS} {cf : Nat → Int32} {p c e o : Nat} (hs : St N F S x z cf p c e o d) (hc : c ≤ p) (he : e ≤ 2 * p) (ho : o ≤ p) {k1 : Int32} (hk : curK x = k1) (hk0 : k1 ≠ 260) (hk1 : k1 ≠ 261) (_ : d < 8) {C : XS → Bool × XS} {G : XS → Option (Bool × XS)} (hC : Sm b C G N F S (d + 1)) {op v : Int32}
    (hI : ∀ y cg pl nx, y.1 18 pl = op → cg nx = v → ∀ T, ItX (xs y) (zs cg) F S pl nx (nx + 1) (b :: T) (b :: T)) :
    Re b N F S x z cf p c e o d (if (C (adv x)).1 then (true, addCoF (C (adv x)).2 op 0 0) else (false, (C (adv x)).2)) (ob (G (setI (setI z 0 10 (nI (d + 1))) 0 9 (nI (p + 1)))) (fun u17 => (if (b2i u17.1) = 0 then some (false, u17.2) else ob (f_X10_put v (setI u17.2 0 10 ((u17.2.1 0 10) - 1))) (fun u38 => some (true, u38))))) := by
  have hN := hs.N
  have hp := hs.nx hk hk0 hk1
  have a := st_deep hs hp
  rcases hC _ _ cf (p + 1) c e o a.st (by omega) (by omega) (by omega) with ⟨w, g1, g2, g3⟩ | ⟨w, g1, g2, cg, p', n', e', o', l1, l2, l3, l4, l5, l6⟩
  · rw [g1, obF, g2, if_neg (by decide)]
    exact Or.inl ⟨w, rfl, rfl, g3.after a.fr.wf⟩
  · rw [g1, obT, g2, if_pos rfl]
    have s1 := l5.st
    have u := st_dep d s1
    rw [up_eq s1]
    have hN1 := s1.N
    obtain ⟨q1, q2⟩ := st_co u.st (show c + n' < 400 by omega) op 0 0
    obtain ⟨r1, r2⟩ := st_put q2.st (show e' < 800 by omega) v
    rw [r1, ob_some1, q1]
    refine Or.inr ⟨_, rfl, rfl, _, p', n' + 1, e' + 1, o', by omega, by omega, by omega, by omega, (((a.trans l5).trans u).trans q2).trans r2, fun h5 T hT => ?_⟩
    have f5 := (q2.trans r2).fr.2.2.2.2.2.2.2 h5
    have t1 := ((u.trans q2).trans r2).pre (Nat.le_refl _) (l6 f5 T (by omega))
    refine t1.app (Pre.one (hI _ _ _ _ ?_ ?_ T) (by omega) (by show T.length + 1 ≤ 400; omega))
    · exact (coS_v _ _ _ _ _).1
    · exact upd_eq _ _ _
/-- the smaller or greater of two sums -/
theorem sm_two {N F S d : Nat} {x z : XS} {cf : Nat → Int32} {p c e o : Nat} (hs : St N F S x z cf p c e o d) (hc : c ≤ p) (he : e ≤ 2 * p) (ho : o ≤ p) {k1 v : Int32} (hk : curK x = k1) (hk0 : k1 ≠ 260) (hk1 : k1 ≠ 261) (hdl : d ≤ 8) {C : XS → Bool × XS} {G : XS → Option (Bool × XS)} (hC : d < 8 → Sm false C G N F S (d + 1)) (hb : (k1, v, false, false) ∈ bins) :
    Re false N F S x z cf p c e o d (let t := deepU (adv x) 40 (nI d)
      if t.1 then
      let s1 := C t.2
      if s1.1 then
        let c := takeU s1.2 44
        if c.1 then
          let s2 := C c.2
          if s2.1 then
            let e := takeU s2.2 41
            if e.1 then (true, addCoF e.2 k1 0 0) else (false, e.2)
          else (false, s2.2)
        else (false, c.2)
      else (false, s1.2)
    else (false, t.2)) (f_X10_isInside G v 1 (setI z 0 9 (nI (p + 1)))) := by
  have hN := hs.N
  have hp := hs.nx hk hk0 hk1
  have a := st_adv hs hp
  unfold f_X10_isInside
  dsimp only
  by_cases hk2 : curK (adv x) = 40
  · rw [sg_is, is_t (v := 50 + 40) a.st.z9 (by omega) ((a.st.kz 40 90 (by decide)).mp hk2), obT]
    rcases Nat.lt_or_ge d 8 with hd | hd
    · have hp2 := a.st.nx hk2 (by decide) (by decide)
      have g0 := st_deep a.st hp2
      rw [deepU_t hk2 hd, deep_t a.st.z9 a.st.2.2.2.2.2.2.2.2.1 hd, obT]
      dsimp only
      rw [if_pos rfl]
      rcases hC hd _ _ cf (p + 1 + 1) c e o g0.st (by omega) (by omega) (by omega) with ⟨w, g1, g2, g3⟩ | ⟨w, g1, g2, cg, p', n', e', o', l1, l2, l3, l4, l5, l6⟩
      · rw [g1, obF, g2, if_neg (by decide)]
        exact Or.inl ⟨w, rfl, rfl, g3.after (a.trans g0).fr.wf⟩
      · rw [g1, obT, g2, if_pos rfl, if_neg (show ¬ (1 : Int32) = 0 by decide), eatSign_eq 44]
        have s1 := l5.st
        have hN1 := s1.N
        by_cases h44 : curK (C (adv (adv x))).2 = 44
        · have hp3 := s1.nx h44 (by decide) (by decide)
          have a3 := st_adv s1 hp3
          rw [take_t h44, eat_t (v := 50 + 44) s1.z9 (by omega) ((s1.kz 44 94 (by decide)).mp h44), obT]
          dsimp only
          rw [if_pos rfl]
          rcases hC hd _ _ cg (p' + 1) (c + n') e' o' a3.st (by omega) (by omega) (by omega) with ⟨w', g1', g2', g3'⟩ | ⟨w', g1', g2', cg', p2, n2, e2, o2, m1, m2, m3, m4, m5, m6⟩
          · rw [g1', obF, g2', if_neg (by decide)]
            exact Or.inl ⟨w', rfl, rfl, g3'.after (((a.trans g0).trans l5).trans a3).fr.wf⟩
          · rw [g1', obT, g2', if_pos rfl, if_neg (show ¬ (1 : Int32) = 0 by decide)]
            have s2 := m5.st
            have hN2 := s2.N
            have u := st_dep d s2
            rw [up_eq s2]
            obtain ⟨r1, r2⟩ := st_put u.st (show e2 < 800 by omega) v
            rw [r1, ob_some1, eatSign_eq, ob_pair]
            have hgo := (((((a.trans g0).trans l5).trans a3).trans m5).trans u).trans r2
            by_cases h41 : curK (C (adv (C (adv (adv x))).2)).2 = 41
            · have hp4 := r2.st.nx h41 (by decide) (by decide)
              have a4 := st_adv r2.st hp4
              rw [take_t h41, eat_t (v := 50 + 41) r2.st.z9 (by omega) ((r2.st.kz 41 91 (by decide)).mp h41)]
              dsimp only
              rw [if_pos rfl]
              obtain ⟨q1, q2⟩ := st_co a4.st (show c + n' + n2 < 400 by omega) k1 0 0
              rw [q1]
              refine Or.inr ⟨_, rfl, rfl, _, p2 + 1, n' + n2 + 1, e2 + 1, o2, by omega, by omega, by omega, by omega, by rw [show c + (n' + n2 + 1) = c + n' + n2 + 1 by omega]; exact (hgo.trans a4).trans q2, fun h5 T hT => ?_⟩
              have f2 := (((u.trans r2).trans a4).trans q2).fr.2.2.2.2.2.2.2 h5
              have f1 := (a3.trans m5).fr.2.2.2.2.2.2.2 f2
              have t1 := (((((a3.trans m5).trans u).trans r2).trans a4).trans q2).pre (Nat.le_refl _) (l6 f1 T (by omega))
              have t2 := (((u.trans r2).trans a4).trans q2).pre (Nat.le_refl _) (m6 f2 (false :: T) (by show T.length + 1 ≤ p' + 1; omega))
              refine (t1.app t2).app (Pre.one (Or.inr (Or.inr (Or.inr (Or.inr (Or.inr (Or.inr (Or.inr (Or.inr (Or.inr (Or.inr ⟨false, false, T, ?_, rfl, rfl, rfl⟩)))))))))) (by omega) (by show T.length + 1 ≤ 400; omega))
              rw [← Nat.add_assoc, show (zs (updF cg' e2 v)).1 19 e2 = v from upd_eq _ _ _]
              show ((coS _ (c + n' + n2) k1 0 0).1 18 (c + n' + n2), v, false, false) ∈ bins
              rw [(coS_v _ _ _ _ _).1]; exact hb
            · rw [take_f h41, eat_f (v := 50 + 41) r2.st.z9 (by omega) (fun q => h41 ((r2.st.kz 41 91 (by decide)).mpr q))]
              dsimp only
              rw [if_neg (by decide)]
              exact Or.inl ⟨_, rfl, rfl, hgo.fl⟩
        · rw [take_f h44, eat_f (v := 50 + 44) s1.z9 (by omega) (fun q => h44 ((s1.kz 44 94 (by decide)).mpr q)), obF]
          dsimp only
          rw [if_neg (by decide)]
          exact Or.inl ⟨_, rfl, rfl, ((a.trans g0).trans l5).fl⟩
    · have hd8 : d = 8 := by omega
      subst hd8
      rw [deepU_f, deep_f a.st.2.2.2.2.2.2.2.2.1, obF]
      exact Or.inl ⟨_, rfl, rfl, a.fl⟩
  · rw [sg_is, is_f (v := 50 + 40) a.st.z9 (by omega) (fun q => hk2 ((a.st.kz 40 90 (by decide)).mpr q)), obF, deepU_k hk2]
    exact Or.inl ⟨_, rfl, rfl, a.fl⟩
