/-! The reference's second reading, token by token -/
def PEq (N : Nat) (y s : XS) : Prop := (∀ q k, 22 ≤ q → q ≤ 26 → y.1 q k = s.1 q k) ∧ ∀ k, k < N → y.1 6 k = s.1 6 k
theorem PEq.set {N : Nat} {y s : XS} (h : PEq N y s) (q k : Nat) (v : Int32) : PEq N (setI y q k v) (setI s q k v) :=
  ⟨fun i j a b => by rw [rdI, rdI, h.1 i j a b], fun j a => by rw [rdI, rdI, h.2 j a]⟩
theorem PEq.skip {N : Nat} {y s : XS} (h : PEq N y s) {q : Nat} (k : Nat) (v : Int32) (hq : q = 0 ∨ q = 21) : PEq N (setI y q k v) s :=
  ⟨fun i j a b => by rw [rdI_ne (by omega)]; exact h.1 i j a b, fun j a => by rw [rdI_ne (by omega)]; exact h.2 j a⟩
def fr2 (q k : Nat) : Prop := q ≠ 6 ∧ ¬ (22 ≤ q ∧ q ≤ 26) ∧ ¬ (q = 0 ∧ k = 9) ∧ ¬ (q = 21 ∧ (k = 0 ∨ k = 1 ∨ k = 5))
def Y2 (N : Nat) (V : Nat → Int64) (w y : XS) (p : Nat) : Prop := y.1 0 9 = nI p ∧ (∀ q k, fr2 q k → y.1 q k = w.1 q k) ∧ (y.1 21 0 = nI (cn (w.1 5) 1 p) ∧ y.1 21 1 = nI (cn (w.1 5) 2 p) ∧ y.1 21 5 = nI (cn (w.1 5) 5 p)) ∧ PEq N y (p2 (w.1 5) (w.1 2) V p) ∧ cn (w.1 5) 1 p ≤ 10 ∧ cn (w.1 5) 2 p ≤ 20 ∧ cn (w.1 5) 5 p ≤ 16
theorem Y2.mk {N : Nat} {V : Nat → Int64} {w y y' : XS} {p : Nat} (h : Y2 N V w y p) (hf : ∀ q k, fr2 q k → y'.1 q k = y.1 q k) (hc : y'.1 21 0 = nI (cn (w.1 5) 1 (p + 1)) ∧ y'.1 21 1 = nI (cn (w.1 5) 2 (p + 1)) ∧ y'.1 21 5 = nI (cn (w.1 5) 5 (p + 1)))
    (hp : PEq N y' (eff (w.1 5) (w.1 2) V p (p2 (w.1 5) (w.1 2) V p))) (hb : cn (w.1 5) 1 (p + 1) ≤ 10 ∧ cn (w.1 5) 2 (p + 1) ≤ 20 ∧ cn (w.1 5) 5 (p + 1) ≤ 16) : Y2 N V w (setI y' 0 9 (nI (p + 1))) (p + 1) := by
  refine ⟨rdI_eq, fun q k a => ?_, ⟨by rw [rdI_ne (by decide)]; exact hc.1, by rw [rdI_ne (by decide)]; exact hc.2.1, by rw [rdI_ne (by decide)]; exact hc.2.2⟩, hp.skip _ _ (Or.inl rfl), hb⟩
  rw [rdI, if_neg a.2.2.1, hf q k a]; exact h.2.1 q k a
theorem fr_set {y : XS} {q k q' k' : Nat} {v : Int32} (h : fr2 q' k') (hq : q = 6 ∨ (22 ≤ q ∧ q ≤ 26)) : (setI y q k v).1 q' k' = y.1 q' k' := rdI_ne (by obtain ⟨a, b, -⟩ := h; omega)
theorem fr_21 {y : XS} {k q' k' : Nat} {v : Int32} (h : fr2 q' k') (hk : k = 0 ∨ k = 1 ∨ k = 5) : (setI y 21 k v).1 q' k' = y.1 q' k' := by
  rw [rdI, if_neg (fun g => h.2.2.2 ⟨g.1, by omega⟩)]
theorem look_eq {x w y : XS} {N : Nat} (hT : TokR x w N) {p : Nat} (hp : p < N) (hk : x.1 5 p = 258) {r : Int32} (hw : STok w y) (h5 : y.1 5 = w.1 5) (hK : ∀ j, j < p → w.1 5 j = r → x.1 5 j = 258) :
    f_X10_look_ (nI p) r y = some (if tl (w.1 5) (x.2 7) r (x.2 7 p) p = -1 then 3 else 0, setI y 6 p (tl (w.1 5) (x.2 7) r (x.2 7 p) p)) := by
  have hN := hT.2.1
  unfold f_X10_look_
  rw [told_at hT hp hk hw (by rw [h5]; exact hK), h5, ob_some1, inB_nI (show p < 401 by omega) (by decide), og_tr, og_tr, nI_clamp (by omega), rdI_eq]
  split <;> rfl
theorem new_eq {x w y : XS} {N : Nat} (hT : TokR x w N) {p : Nat} (hp : p < N) (hk : x.1 5 p = 258) {r : Int32} (hr : w.1 5 p = r) (hw : STok w y) (h5 : y.1 5 = w.1 5) (hK : ∀ j, j < p → w.1 5 j = r → x.1 5 j = 258) (q m : Int32) :
    f_X10_isNew (nI p) q m y = some (if tl (w.1 5) (x.2 7) r (x.2 7 p) p = -1 then (if q = m then 4 else 0) else 2, y) := by
  have hN := hT.2.1
  unfold f_X10_isNew
  rw [inB_nI (show p < 401 by omega) (by decide), og_tr, nI_clamp (by omega), h5, hr, told_at hT hp hk hw (by rw [h5]; exact hK), h5, ob_some1]
  dsimp only
  split
  · split <;> rfl
  · rfl
theorem sub1 {n : Nat} : nI (n + 1) - 1 = nI n := by rw [show nI (n + 1) = nI n + 1 from (nI_addN n 1).symm, Int32.add_sub_cancel]
theorem clm_eq {y : XS} {p S : Nat} (hp : p + 1 < 401) (hS : S < 20) (h1 : y.1 21 1 = nI (S + 1)) {er m : Int32} (hl : f_X10_look_ (nI p) 1 y = some (er, setI y 6 p m)) {v : Int32} (hv : v = 2 * m + (if y.1 2 (p + 1) = 11 then 1 else 0)) :
    (y.1 5 p = 3 → f_X10_claim (nI p) y = some (er, if (setI (setI y 6 p m) 23 S v).1 22 S = 9 then setI (setI (setI y 6 p m) 23 S v) 24 S v else setI (setI y 6 p m) 23 S v)) ∧ (y.1 5 p = 4 → f_X10_claim (nI p) y = some (er, setI (setI y 6 p m) 24 S v)) := by
  have e1 : (setI y 6 p m).1 21 1 - 1 = nI S := by rw [rdI_ne (by decide), h1]; exact sub1
  have e2 : (setI y 6 p m).1 2 (p + 1) = y.1 2 (p + 1) := rdI_ne (by decide)
  have e5 : (setI y 6 p m).1 5 p = y.1 5 p := rdI_ne (by decide)
  have e6 : (setI y 6 p m).1 6 p = m := rdI_eq
  have e7 : nI p + 1 = nI (p + 1) := nI_addN p 1
  have e8 : ∀ v', (setI (setI y 6 p m) 23 S v').1 5 p = y.1 5 p := fun v' => by rw [rdI_ne (by decide)]; exact e5
  have i1 : inB (nI p) 401 = true := inB_nI (by omega) (by decide)
  have i2 : inB (nI (p + 1)) 401 = true := inB_nI (by omega) (by decide)
  have i3 : inB (nI S) 20 = true := inB_nI hS (by decide)
  have c1 : (nI p).toNatClampNeg = p := nI_clamp (by omega)
  have c2 : (nI (p + 1)).toNatClampNeg = p + 1 := nI_clamp (by omega)
  have c3 : (nI S).toNatClampNeg = S := nI_clamp (by omega)
  unfold f_X10_claim
  rw [hl, ob_some1]
  simp only [e1, e7, i1, i2, i3, c1, c2, c3, e2, e5, e6, e8, og_tr]
  refine ⟨fun h => ?_, fun h => ?_⟩
  · rw [h]
    simp only [show ((3 : Int32) = 4) = False from eq_false (by decide), if_true, if_false]
    by_cases g : y.1 2 (p + 1) = 11
    · rw [if_pos g] at hv
      rw [if_pos g, hv]
      split <;> rfl
    · rw [if_neg g] at hv
      rw [if_neg g, hv]
      split <;> rfl
  · rw [h]
    simp only [show ((4 : Int32) = 3) = False from eq_false (by decide), if_true, if_false]
    by_cases g : y.1 2 (p + 1) = 11
    · rw [if_pos g] at hv
      rw [if_pos g, hv]
    · rw [if_neg g] at hv
      rw [if_neg g, hv]
theorem step2 {x w y : XS} {N P p : Nat} (hT : TokR x w N) (hro : RoK (w.1 5) (x.1 5) P) (hp : p < P) (hP : P < N) (h : Y2 N (x.2 7) w y p) :
    ∃ y', f_X10_errorOf (nI p) y = some (er (w.1 5) (x.2 7) p, y') ∧ y'.1 0 9 = nI p ∧ (∀ q k, fr2 q k → y'.1 q k = w.1 q k) ∧ (er (w.1 5) (x.2 7) p = 0 → Y2 N (x.2 7) w (setI y' 0 9 (nI (p + 1))) (p + 1)) := by
  have hN := hT.2.1
  have hY := h
  obtain ⟨y9, yf, ⟨y0, y1, y5⟩, ype, b0, b1, b5⟩ := h
  have h5 : y.1 5 = w.1 5 := funext fun k => yf 5 k ⟨by decide, by omega, by omega, by omega⟩
  have h2 : ∀ k, y.1 2 k = w.1 2 k := fun k => yf 2 k ⟨by decide, by omega, by omega, by omega⟩
  have hw : STok w y := fun q k a b => yf q k ⟨by omega, by omega, by omega, by omega⟩
  have hK : ∀ r, r = 1 ∨ r = 2 → ∀ j, j < p → w.1 5 j = r → x.1 5 j = 258 := fun r hr j hj e => (hro j (by omega)).2.2.1 (by rcases hr with g | g <;> rw [e, g] <;> decide)
  obtain ⟨ro1, ro2, ro3, ro4⟩ := hro p hp
  have nx : x.1 5 p = 258 → p + 1 < N := fun g => tok_end hT (by omega) (by rw [g]; decide) (by rw [g]; decide)
  unfold f_X10_errorOf
  rw [inB_nI (show p < 401 by omega) (by decide), og_tr, nI_clamp (by omega), h5]
  have cnn : ∀ {r : Int32}, w.1 5 p ≠ r → cn (w.1 5) r (p + 1) = cn (w.1 5) r p := fun g => cn_n g
  have cn0 : ∀ {z : XS}, w.1 5 p ≠ 1 → w.1 5 p ≠ 2 → w.1 5 p ≠ 5 → z.1 21 0 = y.1 21 0 → z.1 21 1 = y.1 21 1 → z.1 21 5 = y.1 21 5 →
      (z.1 21 0 = nI (cn (w.1 5) 1 (p + 1)) ∧ z.1 21 1 = nI (cn (w.1 5) 2 (p + 1)) ∧ z.1 21 5 = nI (cn (w.1 5) 5 (p + 1))) ∧ cn (w.1 5) 1 (p + 1) ≤ 10 ∧ cn (w.1 5) 2 (p + 1) ≤ 20 ∧ cn (w.1 5) 5 (p + 1) ≤ 16 := fun a b d e f g => by
    rw [cnn a, cnn b, cnn d, e, f, g]; exact ⟨⟨y0, y1, y5⟩, b0, b1, b5⟩
  by_cases r1 : w.1 5 p = 1
  · have kp := ro3 (Or.inl r1)
    rw [if_pos r1]
    unfold f_X10_newFamily
    rw [new_eq hT (by omega) kp r1 hw h5 (hK 1 (Or.inl rfl)), ob_some1, y0, er1 r1]
    dsimp only
    have e10 : nI (cn (w.1 5) 1 p) = 10 ↔ cn (w.1 5) 1 p = 10 := nI_inj (b := 10) (by omega) (by omega)
    by_cases t : tl (w.1 5) (x.2 7) 1 (x.2 7 p) p = -1
    · rw [if_pos t, if_pos t]
      by_cases f : cn (w.1 5) 1 p = 10
      · rw [if_pos f, if_pos (e10.mpr f), if_neg (by decide), ob_some1]
        exact ⟨_, rfl, (rdI_ne (by decide)).trans y9, fun q k a => (fr_21 a (by simp)).trans (yf q k a), fun g => absurd g (by decide)⟩
      · rw [if_neg f, if_neg (fun g => f (e10.mp g)), if_pos rfl, ob_some1]
        refine ⟨_, rfl, (rdI_ne (by decide)).trans y9, fun q k a => (fr_21 a (by simp)).trans (yf q k a), fun _ => hY.mk (fun q k a => fr_21 a (by simp)) ⟨?_, ?_, ?_⟩ ?_ ?_⟩
        · rw [cn_y r1, rdI_eq]; exact nI_addN _ 1
        · rw [cnn (by rw [r1]; decide), rdI_nk (by decide)]; exact y1
        · rw [cnn (by rw [r1]; decide), rdI_nk (by decide)]; exact y5
        · rw [eff0 (Or.inr r1)]; exact ype.skip _ _ (Or.inr rfl)
        · rw [cn_y r1, cnn (by rw [r1]; decide), cnn (by rw [r1]; decide)]; exact ⟨by omega, b1, b5⟩
    · rw [if_neg t, if_neg t, if_neg (by decide), ob_some1]
      exact ⟨_, rfl, (rdI_ne (by decide)).trans y9, fun q k a => (fr_21 a (by simp)).trans (yf q k a), fun g => absurd g (by decide)⟩
  rw [if_neg r1]
  by_cases r2 : w.1 5 p = 2
  · have kp := ro3 (Or.inr (Or.inl r2))
    have p0 := ro4 r2
    rw [if_pos r2]
    unfold f_X10_newStatement
    rw [new_eq hT (by omega) kp r2 hw h5 (hK 2 (Or.inr rfl)), ob_some1, y1, er2 r2]
    dsimp only
    have e10 : nI (cn (w.1 5) 2 p) = 20 ↔ cn (w.1 5) 2 p = 20 := nI_inj (b := 20) (by omega) (by omega)
    by_cases t : tl (w.1 5) (x.2 7) 2 (x.2 7 p) p = -1
    · rw [if_pos t, if_pos t]
      by_cases f : cn (w.1 5) 2 p = 20
      · rw [if_pos f, if_pos (e10.mpr f), if_neg (by decide), ob_some1]
        exact ⟨_, rfl, y9, yf, fun g => absurd g (by decide)⟩
      · obtain ⟨p', rfl⟩ : ∃ p', p = p' + 1 := ⟨p - 1, by omega⟩
        rw [if_neg f, if_neg (fun g => f (e10.mp g)), if_pos (by decide), sub1, inB_nI (show p' < 401 by omega) (by decide), og_tr, inB_nI (show cn (w.1 5) 2 (p' + 1) < 20 by omega) (by decide), og_tr, ob_some1, nI_clamp (by omega), nI_clamp (by omega), rdI_ne (by decide), y1]
        have ee : nI (cn (w.1 5) 2 (p' + 1)) + 1 = nI (cn (w.1 5) 2 (p' + 1 + 1)) := by rw [cn_y r2]; exact nI_addN _ 1
        rw [ee]
        refine ⟨_, rfl, (rdI_ne (by decide)).trans ((rdI_ne (by decide)).trans y9), fun q k a => (fr_21 a (by simp)).trans ((fr_set a (by simp)).trans (yf q k a)), fun _ => hY.mk (fun q k a => (fr_21 a (by simp)).trans (fr_set a (by simp))) ⟨?_, ?_, ?_⟩ ?_ ?_⟩
        · rw [cnn (r := 1) (by rw [r2]; decide), rdI_nk (by decide), rdI_ne (by decide)]; exact y0
        · exact rdI_eq
        · rw [cnn (r := 5) (by rw [r2]; decide), rdI_nk (by decide), rdI_ne (by decide)]; exact y5
        · unfold eff
          rw [if_pos r2, h2, show p' + 1 - 1 = p' from rfl]
          exact (ype.set _ _ _).skip _ _ (Or.inr rfl)
        · rw [cn_y r2, cnn (by rw [r2]; decide), cnn (by rw [r2]; decide)]; exact ⟨b0, by omega, b5⟩
    · rw [if_neg t, if_neg t, if_neg (by decide), ob_some1]
      exact ⟨_, rfl, y9, yf, fun g => absurd g (by decide)⟩
  rw [if_neg r2]
  have cl34 : ∀ r, r = 3 ∨ r = 4 → w.1 5 p = r → ∃ S v, S < 20 ∧ cn (w.1 5) 2 p = S + 1 ∧ v = 2 * tl (w.1 5) (x.2 7) 1 (x.2 7 p) p + (if w.1 2 (p + 1) = 11 then 1 else 0) ∧
      (r = 3 → f_X10_claim (nI p) y = some (er (w.1 5) (x.2 7) p, if (setI (setI y 6 p (tl (w.1 5) (x.2 7) 1 (x.2 7 p) p)) 23 S v).1 22 S = 9 then setI (setI (setI y 6 p (tl (w.1 5) (x.2 7) 1 (x.2 7 p) p)) 23 S v) 24 S v else setI (setI y 6 p (tl (w.1 5) (x.2 7) 1 (x.2 7 p) p)) 23 S v)) ∧ (r = 4 → f_X10_claim (nI p) y = some (er (w.1 5) (x.2 7) p, setI (setI y 6 p (tl (w.1 5) (x.2 7) 1 (x.2 7 p) p)) 24 S v)) := by
    intro r hr e
    have kp : x.1 5 p = 258 := ro3 (by rcases hr with g | g <;> rw [e, g] <;> decide)
    have c0 := ro1 (by rcases hr with g | g <;> rw [e, g] <;> decide)
    have nxp := nx kp
    obtain ⟨S, hS⟩ : ∃ S, cn (w.1 5) 2 p = S + 1 := ⟨cn (w.1 5) 2 p - 1, by omega⟩
    have hl := look_eq hT (by omega) kp hw h5 (hK 1 (Or.inl rfl))
    have ee : er (w.1 5) (x.2 7) p = if tl (w.1 5) (x.2 7) 1 (x.2 7 p) p = -1 then 3 else 0 := er34 (by rw [e]; exact hr)
    rw [← ee] at hl
    obtain ⟨g1, g2⟩ := clm_eq (S := S) (by omega) (by omega) (by rw [y1, hS]) hl rfl
    rw [h2, h5] at g1 g2
    exact ⟨S, _, by omega, hS, rfl, fun k => g1 (e.trans k), fun k => g2 (e.trans k)⟩
  by_cases r3 : w.1 5 p = 3
  · obtain ⟨S, v, hS, hcS, hv, g1, -⟩ := cl34 3 (Or.inl rfl) r3
    rw [if_pos r3, g1 rfl, ob_some1]
    have hcS1 : cn (w.1 5) 2 p - 1 = S := by omega
    have key : ∀ s : XS, PEq N y s → PEq N (if (setI (setI y 6 p (tl (w.1 5) (x.2 7) 1 (x.2 7 p) p)) 23 S v).1 22 S = 9 then setI (setI (setI y 6 p (tl (w.1 5) (x.2 7) 1 (x.2 7 p) p)) 23 S v) 24 S v else setI (setI y 6 p (tl (w.1 5) (x.2 7) 1 (x.2 7 p) p)) 23 S v) (eff (w.1 5) (w.1 2) (x.2 7) p s) := by
      intro s hs
      have e22 : (setI (setI y 6 p (tl (w.1 5) (x.2 7) 1 (x.2 7 p) p)) 23 S v).1 22 S = (setI (setI s 6 p (tl (w.1 5) (x.2 7) 1 (x.2 7 p) p)) 23 S v).1 22 S := by
        rw [rdI_ne (by decide), rdI_ne (by decide), rdI_ne (by decide), rdI_ne (by decide)]; exact hs.1 22 S (by decide) (by decide)
      unfold eff
      rw [if_neg r2, if_pos r3, hcS1, ← hv, e22]
      split
      · exact ((hs.set _ _ _).set _ _ _).set _ _ _
      · exact (hs.set _ _ _).set _ _ _
    have fr : ∀ q k, fr2 q k → (if (setI (setI y 6 p (tl (w.1 5) (x.2 7) 1 (x.2 7 p) p)) 23 S v).1 22 S = 9 then setI (setI (setI y 6 p (tl (w.1 5) (x.2 7) 1 (x.2 7 p) p)) 23 S v) 24 S v else setI (setI y 6 p (tl (w.1 5) (x.2 7) 1 (x.2 7 p) p)) 23 S v).1 q k = y.1 q k := by
      intro q k a
      split
      · rw [fr_set a (by simp), fr_set a (by simp), fr_set a (by simp)]
      · rw [fr_set a (by simp), fr_set a (by simp)]
    have f21 : ∀ q k, q = 0 ∨ q = 21 → (if (setI (setI y 6 p (tl (w.1 5) (x.2 7) 1 (x.2 7 p) p)) 23 S v).1 22 S = 9 then setI (setI (setI y 6 p (tl (w.1 5) (x.2 7) 1 (x.2 7 p) p)) 23 S v) 24 S v else setI (setI y 6 p (tl (w.1 5) (x.2 7) 1 (x.2 7 p) p)) 23 S v).1 q k = y.1 q k := by
      intro q k a
      split
      · rw [rdI_ne (by omega), rdI_ne (by omega), rdI_ne (by omega)]
      · rw [rdI_ne (by omega), rdI_ne (by omega)]
    obtain ⟨d1, d2⟩ := cn0 (by rw [r3]; decide) (by rw [r3]; decide) (by rw [r3]; decide) (f21 21 0 (by simp)) (f21 21 1 (by simp)) (f21 21 5 (by simp))
    exact ⟨_, rfl, (f21 0 9 (by simp)).trans y9, fun q k a => (fr q k a).trans (yf q k a), fun _ => hY.mk fr d1 (key _ ype) d2⟩
  rw [if_neg r3]
  by_cases r4 : w.1 5 p = 4
  · obtain ⟨S, v, hS, hcS, hv, -, g1⟩ := cl34 4 (Or.inr rfl) r4
    rw [if_pos r4, g1 rfl, ob_some1]
    have hcS1 : cn (w.1 5) 2 p - 1 = S := by omega
    have fr : ∀ q k, fr2 q k → (setI (setI y 6 p (tl (w.1 5) (x.2 7) 1 (x.2 7 p) p)) 24 S v).1 q k = y.1 q k := fun q k a => by rw [fr_set a (by simp), fr_set a (by simp)]
    have f21 : ∀ q k, q = 0 ∨ q = 21 → (setI (setI y 6 p (tl (w.1 5) (x.2 7) 1 (x.2 7 p) p)) 24 S v).1 q k = y.1 q k := fun q k a => by rw [rdI_ne (by omega), rdI_ne (by omega)]
    obtain ⟨d1, d2⟩ := cn0 (by rw [r4]; decide) (by rw [r4]; decide) (by rw [r4]; decide) (f21 21 0 (by simp)) (f21 21 1 (by simp)) (f21 21 5 (by simp))
    refine ⟨_, rfl, (f21 0 9 (by simp)).trans y9, fun q k a => (fr q k a).trans (yf q k a), fun _ => hY.mk fr d1 ?_ d2⟩
    unfold eff
    rw [if_neg r2, if_neg r3, if_pos r4, hcS1, ← hv]
    exact (ype.set _ _ _).set _ _ _
  rw [if_neg r4]
  by_cases r5 : w.1 5 p = 5
  · rw [if_pos r5, er5 r5]
    unfold f_X10_newOrder
    have e10 : y.1 21 5 = 16 ↔ cn (w.1 5) 5 p = 16 := by rw [y5]; exact nI_inj (b := 16) (by omega) (by omega)
    by_cases f : cn (w.1 5) 5 p = 16
    · rw [if_pos f, if_pos (e10.mpr f), og_tr, ob_some1]
      exact ⟨_, rfl, y9, yf, fun g => absurd g (by decide)⟩
    · rw [if_neg f, if_neg (fun g => f (e10.mp g)), y5, inB_nI (show cn (w.1 5) 5 p < 16 by omega) (by decide), og_tr, og_tr, ob_some1, nI_clamp (by omega), rdI_ne (by decide), y5, h2]
      have ee : nI (cn (w.1 5) 5 p) + 1 = nI (cn (w.1 5) 5 (p + 1)) := by rw [cn_y r5]; exact nI_addN _ 1
      rw [ee]
      refine ⟨_, rfl, (rdI_ne (by decide)).trans ((rdI_ne (by decide)).trans y9), fun q k a => (fr_21 a (by simp)).trans ((fr_set a (by simp)).trans (yf q k a)), fun _ => hY.mk (fun q k a => (fr_21 a (by simp)).trans (fr_set a (by simp))) ⟨?_, ?_, ?_⟩ ?_ ?_⟩
      · rw [cnn (r := 1) (by rw [r5]; decide), rdI_nk (by decide), rdI_ne (by decide)]; exact y0
      · rw [cnn (r := 2) (by rw [r5]; decide), rdI_nk (by decide), rdI_ne (by decide)]; exact y1
      · exact rdI_eq
      · unfold eff
        rw [if_neg r2, if_neg r3, if_neg r4, if_pos r5]
        exact (ype.set _ _ _).skip _ _ (Or.inr rfl)
      · rw [cn_y r5, cnn (by rw [r5]; decide), cnn (by rw [r5]; decide)]; exact ⟨b0, b1, by omega⟩
  rw [if_neg r5]
  by_cases r6 : w.1 5 p = 6
  · have kp : x.1 5 p = 258 := ro3 (by rw [r6]; decide)
    have c0 := ro2 r6
    obtain ⟨O, hO⟩ : ∃ O, cn (w.1 5) 5 p = O + 1 := ⟨cn (w.1 5) 5 p - 1, by omega⟩
    rw [if_pos r6, er6 r6]
    unfold f_X10_ofOrder
    rw [look_eq hT (by omega) kp hw h5 (hK 2 (Or.inr rfl)), ob_some1, inB_nI (show p < 401 by omega) (by decide), og_tr]
    dsimp only
    rw [rdI_ne (by decide), y5, hO, sub1, inB_nI (show O < 16 by omega) (by decide), og_tr, ob_some1, nI_clamp (by omega), nI_clamp (by omega), rdI_eq]
    have fr : ∀ q k, fr2 q k → (setI (setI y 6 p (tl (w.1 5) (x.2 7) 2 (x.2 7 p) p)) 26 O (tl (w.1 5) (x.2 7) 2 (x.2 7 p) p)).1 q k = y.1 q k := fun q k a => by rw [fr_set a (by simp), fr_set a (by simp)]
    have f21 : ∀ q k, q = 0 ∨ q = 21 → (setI (setI y 6 p (tl (w.1 5) (x.2 7) 2 (x.2 7 p) p)) 26 O (tl (w.1 5) (x.2 7) 2 (x.2 7 p) p)).1 q k = y.1 q k := fun q k a => by rw [rdI_ne (by omega), rdI_ne (by omega)]
    obtain ⟨d1, d2⟩ := cn0 (by rw [r6]; decide) (by rw [r6]; decide) (by rw [r6]; decide) (f21 21 0 (by simp)) (f21 21 1 (by simp)) (f21 21 5 (by simp))
    refine ⟨_, rfl, (f21 0 9 (by simp)).trans y9, fun q k a => (fr q k a).trans (yf q k a), fun _ => hY.mk fr d1 ?_ d2⟩
    unfold eff
    rw [if_neg r2, if_neg r3, if_neg r4, if_neg r5, if_pos r6, hO, show O + 1 - 1 = O from rfl]
    exact (ype.set _ _ _).set _ _ _
  rw [if_neg r6]
  have fr : ∀ (v : Int32) q k, fr2 q k → (setI y 6 p v).1 q k = y.1 q k := fun v q k a => fr_set a (by simp)
  have f21 : ∀ (v : Int32) q k, q = 0 ∨ q = 21 → (setI y 6 p v).1 q k = y.1 q k := fun v q k a => rdI_ne (by omega)
  by_cases r7 : w.1 5 p = 7
  · have kp : x.1 5 p = 258 := ro3 (by rw [r7]; decide)
    rw [if_pos r7, er7 r7, look_eq hT (by omega) kp hw h5 (hK 1 (Or.inl rfl)), ob_some1]
    obtain ⟨d1, d2⟩ := cn0 (by rw [r7]; decide) (by rw [r7]; decide) (by rw [r7]; decide) (f21 _ 21 0 (by simp)) (f21 _ 21 1 (by simp)) (f21 _ 21 5 (by simp))
    refine ⟨_, rfl, (f21 _ 0 9 (by simp)).trans y9, fun q k a => (fr _ q k a).trans (yf q k a), fun _ => hY.mk (fr _) d1 ?_ d2⟩
    unfold eff
    rw [if_neg r2, if_neg r3, if_neg r4, if_neg r5, if_neg r6, if_pos r7]
    exact ype.set _ _ _
  rw [if_neg r7]
  by_cases r8 : w.1 5 p = 8
  · have kp : x.1 5 p = 258 := ro3 (by rw [r8]; decide)
    rw [if_pos r8, er8 r8, look_eq hT (by omega) kp hw h5 (hK 2 (Or.inr rfl)), ob_some1]
    obtain ⟨d1, d2⟩ := cn0 (by rw [r8]; decide) (by rw [r8]; decide) (by rw [r8]; decide) (f21 _ 21 0 (by simp)) (f21 _ 21 1 (by simp)) (f21 _ 21 5 (by simp))
    refine ⟨_, rfl, (f21 _ 0 9 (by simp)).trans y9, fun q k a => (fr _ q k a).trans (yf q k a), fun _ => hY.mk (fr _) d1 ?_ d2⟩
    unfold eff
    rw [if_neg r2, if_neg r3, if_neg r4, if_neg r5, if_neg r6, if_neg r7, if_pos r8]
    exact ype.set _ _ _
  rw [if_neg r8]
  have e0 : er (w.1 5) (x.2 7) p = 0 := by
    unfold er
    rw [if_neg r1, if_neg r2, if_neg (fun g => g.elim r3 (fun g => g.elim r4 r7)), if_neg r5, if_neg (fun g => g.elim r6 r8)]
  obtain ⟨d1, d2⟩ := cn0 r1 r2 r5 rfl rfl rfl
  refine ⟨y, by rw [e0], y9, yf, fun _ => hY.mk (fun _ _ _ => rfl) d1 ?_ d2⟩
  unfold eff
  rw [if_neg r2, if_neg r3, if_neg r4, if_neg r5, if_neg r6, if_neg r7, if_neg r8]
  exact ype
