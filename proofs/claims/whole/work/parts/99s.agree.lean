/-! Teaching: the law -/
theorem clr_ne {y : XS} {p q k : Nat} (h : q ≠ p) : (clr y p).1 q k = y.1 q k := if_neg h
theorem clr_eq {y : XS} {q k : Nat} : (clr y q).1 q k = 0 := if_pos rfl
theorem start_ok {y : XS} {N t : Nat} (h : y.1 3 4 = nI N) (ht : t < N) (hN : N ≤ 401) : startAtF y (nI t) = y.1 6 t := by
  unfold startAtF
  rw [h, if_neg (nI_nn (by omega)), if_neg (fun q => by have := (nI_leq (by omega) (by omega)).mp q; omega), if_neg (fun q => by have := (nI_leq (by omega) (by omega)).mp q; omega), nI_clamp (by omega)]
def rdX (s : XS) : XS := clearF (setI (setI (setI s 1 1 0) 34 4 0) 34 5 0)
def fiX (p : Bool × XS) : XS := if p.1 && nextB p.2 260 then p.2 else setI (setI p.2 34 5 1) 34 6 ((setI p.2 34 5 1).1 34 4)
theorem read_eq (s : XS) : readF (setI s 1 1 0) = fiX (planL 400 (rdX s)) := by
  unfold readF fiX rdX
  with_reducible rfl
theorem teach_eq (x : XS) : teachF x = (if (readF (setI (scanF x) 1 1 0)).1 34 5 = 0 then startF (setI (readF (setI (scanF x) 1 1 0)) 0 10 (errPosF (readF (setI (scanF x) 1 1 0)))) else setI (readF (setI (scanF x) 1 1 0)) 0 10 (errPosF (readF (setI (scanF x) 1 1 0)))) := by
  unfold teachF
  with_reducible rfl
theorem rdX_ok (s : XS) : (∀ q k, q ≠ 1 → q ≠ 8 → q ≠ 34 → (rdX s).1 q k = s.1 q k) ∧ (rdX s).2 = s.2 ∧ (rdX s).1 1 1 = 0 ∧ ((rdX s).1 34 4 = 0 ∧ (rdX s).1 34 5 = 0) ∧ ((rdX s).1 8 0 = 0 ∧ (rdX s).1 8 1 = 0 ∧ (rdX s).1 8 7 = 0 ∧ (rdX s).1 8 12 = 0) := by
  unfold rdX clearF
  refine ⟨fun q k a b c => ?_, rfl, ?_, ⟨?_, ?_⟩, ?_, ?_, ?_, ?_⟩
  · rw [rdI_ne b, rdI_ne b, rdI_ne b, rdI_ne b, rdI_ne c, rdI_ne c, rdI_ne a]
  · rw [rdI_ne (by decide), rdI_ne (by decide), rdI_ne (by decide), rdI_ne (by decide), rdI_ne (by decide), rdI_ne (by decide), rdI_eq]
  · rw [rdI_ne (by decide), rdI_ne (by decide), rdI_ne (by decide), rdI_ne (by decide), rdI_nk (by decide), rdI_eq]
  · rw [rdI_ne (by decide), rdI_ne (by decide), rdI_ne (by decide), rdI_ne (by decide), rdI_eq]
  · rw [rdI_nk (by decide), rdI_nk (by decide), rdI_nk (by decide), rdI_eq]
  · rw [rdI_nk (by decide), rdI_nk (by decide), rdI_eq]
  · rw [rdI_nk (by decide), rdI_eq]
  · exact rdI_eq
theorem ag_teach : AgN (IV RR0) (fun x => some ((readF (setI (scanF x) 1 1 0)).1 34 5, teachF x)) f_X10_teach := by
  rintro x z ⟨F, S, l, r, m, h⟩
  obtain ⟨hTap, hErr, hOrd, hO, hKey⟩ := h.rest
  have zc : ∀ q k, q < 21 → ¬ (q = 0 ∧ (k = 0 ∨ k = 3)) → (i_X9_init_21 (clr (setI (setI z 0 0 0) 0 3 (-1)) 21)).1 q k = z.1 q k := fun q k a b => by
    unfold i_X9_init_21
    rw [clr_ne (by omega), clr_ne (by omega), clr_ne (by omega), clr_ne (by omega), clr_ne (by omega), clr_ne (by omega), clr_ne (by omega), clr_ne (by omega), clr_ne (by omega), clr_ne (by omega), rdI, if_neg (by omega), rdI, if_neg (by omega)]
  have zc3 : (i_X9_init_21 (clr (setI (setI z 0 0 0) 0 3 (-1)) 21)).1 0 3 = -1 := by
    unfold i_X9_init_21
    rw [clr_ne (by decide), clr_ne (by decide), clr_ne (by decide), clr_ne (by decide), clr_ne (by decide), clr_ne (by decide), clr_ne (by decide), clr_ne (by decide), clr_ne (by decide), clr_ne (by decide), rdI_eq]
  have zc0 : ∀ q k, 21 ≤ q → q ≤ 30 → (i_X9_init_21 (clr (setI (setI z 0 0 0) 0 3 (-1)) 21)).1 q k = 0 := fun q k a b => by
    have hq : q = 21 ∨ q = 22 ∨ q = 23 ∨ q = 24 ∨ q = 25 ∨ q = 26 ∨ q = 27 ∨ q = 28 ∨ q = 29 ∨ q = 30 := by omega
    unfold i_X9_init_21
    rcases hq with rfl | rfl | rfl | rfl | rfl | rfl | rfl | rfl | rfl | rfl
    all_goals
      repeat rw [clr_ne (by decide)]
      exact clr_eq
  unfold f_X10_teach f_X10_read
  generalize i_X9_init_21 (clr (setI (setI z 0 0 0) 0 3 (-1)) 21) = Zc at *
  have hTc : TapR x Zc := by
    obtain ⟨n, n1, n2, n3, n4⟩ := hTap
    exact ⟨n, n1, n2, (zc 0 2 (by decide) (by omega)).trans n3, fun k hk => (zc 1 k (by decide) (by omega)).trans (n4 k hk)⟩
  obtain ⟨z', N, e1, T1, T2, T3, T4, T5⟩ := tok_ok hTc (fun j hj => (hKey j).trans (key_v j hj))
  rw [e1, ob_some1]
  -- the class before reading
  obtain ⟨hX, hX2, hX1, hX34, hX8⟩ := rdX_ok (scanF x)
  dsimp only
  rw [teach_eq x, read_eq]
  generalize rdX (scanF x) = XP at *
  have fi_t : ((planL 400 XP).1 && nextB (planL 400 XP).2 260) = true → fiX (planL 400 XP) = (planL 400 XP).2 := fun g => by unfold fiX; rw [if_pos g]
  have fi_f : ((planL 400 XP).1 && nextB (planL 400 XP).2 260) = false → fiX (planL 400 XP) = setI (setI (planL 400 XP).2 34 5 1) 34 6 ((setI (planL 400 XP).2 34 5 1).1 34 4) := fun g => by unfold fiX; rw [if_neg (by rw [g]; decide)]
  have ZPn : ∀ q k, ¬ (q = 0 ∧ (k = 9 ∨ k = 10)) → (setI (setI z' 0 9 0) 0 10 0).1 q k = z'.1 q k := fun q k a => by rw [rdI, if_neg (by omega), rdI, if_neg (by omega)]
  have ZP9 : (setI (setI z' 0 9 0) 0 10 0).1 0 9 = 0 := by rw [rdI_nk (by decide), rdI_eq]
  have ZP10 : (setI (setI z' 0 9 0) 0 10 0).1 0 10 = 0 := rdI_eq
  generalize setI (setI z' 0 9 0) 0 10 0 = ZP at *
  have hZ0 : ∀ q k, 21 ≤ q → q ≤ 30 → ZP.1 q k = 0 := fun q k a b => by rw [ZPn q k (by omega), T5 q k (by omega)]; exact zc0 q k a b
  have hTP : TokR XP ZP N := TokR_of (fun q k hq => hX q k (by omega) (by omega) (by omega)) (fun k => by rw [hX2]) (fun q k a b => ZPn q k (by omega)) T1
  have hN := hTP.2.1
  have lst0 : LSt N XP ZP (fun _ => 0) 0 0 0 0 := by
    refine ⟨⟨hTP, hTP.1, hX34.1, ZP9, fun t _ ht => by rw [ZPn 5 t (by omega)]; exact (T2 t ht).1, hX8.2.2.2, hZ0 21 12 (by decide) (by decide), hZ0 21 14 (by decide) (by decide), ZP10, ⟨fun i hi => absurd hi (Nat.not_lt_zero _), fun j hj => absurd hj (Nat.not_lt_zero _), fun j k _ hk => absurd hk (Nat.not_lt_zero _)⟩, fun j hj => absurd hj (Nat.not_lt_zero _)⟩, Nat.le_refl _, Nat.zero_le _, Nat.le_refl _, hZ0 21 6 (by decide) (by decide), Or.inl ⟨hX34.2, fun j hj => absurd hj (Nat.not_lt_zero _), 0, 0, 0, ⟨rfl, by decide, hX8.1, fun j hj => absurd hj (Nat.not_lt_zero _)⟩, ⟨rfl, by decide, hX8.2.1, fun j hj => absurd hj (Nat.not_lt_zero _)⟩, ⟨rfl, by decide, hX8.2.2.1⟩, fun k hk => absurd hk (Nat.not_lt_zero _), fun k hk => absurd hk (Nat.not_lt_zero _)⟩⟩
  have hplan := plan_ok 400 402 XP ZP (fun _ => 0) 0 0 0 0 lst0 (by omega) (by omega)
  -- frames
  have frx : ∀ {Y w : XS}, WF XP ZP Y w → (∀ q k, 21 ≤ q → q ≠ 34 → Y.1 q k = x.1 q k) ∧ (∀ q k, 37 ≤ q ∨ q = 4 → Y.2 q k = x.2 q k) ∧ (∀ q k, (7 ≤ q ∧ q ≤ 20) ∨ (q = 0 ∧ 13 ≤ k) → w.1 q k = z.1 q k) ∧ Y.1 1 1 = 0 ∧ Y.1 3 4 = nI N ∧ (∀ t, t < N → Y.1 6 t = w.1 3 t) := fun {Y w} hw => by
    obtain ⟨w1, w2, w3⟩ := hw
    refine ⟨fun q k a b => ?_, fun q k a => ?_, fun q k a => ?_, (w1 1 1 (by decide) (by omega)).trans hX1, (w1 3 4 (by decide) (by omega)).trans hTP.2.2.1, fun t ht => ?_⟩
    · rw [w1 q k b (by omega), hX q k (by omega) (by omega) b]; exact T3 q k (by omega) (by omega) (by omega)
    · rw [w2 q k (by omega) (by omega), hX2]; exact T4 q k (by omega) (by omega)
    · rw [w3 q k (by omega) (by omega) (by omega) (by omega), ZPn q k (by omega), T5 q k (by omega)]; exact zc q k (by omega) (by omega)
    · rw [w1 6 t (by decide) (by omega), w3 3 t (by decide) (by decide) (by omega) (by omega)]; exact (hTP.2.2.2.1 t ht).2
  have hIs : f_X10_isPlan ZP = f_X10_isPlan_L0 402 ZP := by unfold f_X10_isPlan; with_reducible rfl
  rw [hIs]
  rcases hplan with ⟨w, g1, g2, ⟨p', q1, q2, q3⟩, hwf⟩ | ⟨w, cg, P, c, e, o, g1, g2, g3, g4, g5⟩
  · obtain ⟨f1, f2, f3, f4, f5, f6⟩ := frx hwf
    rw [g1, obF, q3, inB_nI (show p' < 401 by omega) (by decide), og_tr, ob_some1, nI_clamp (by omega), fi_f g2]
    generalize (planL 400 XP).2 = Y at *
    have hy6 : (setI (setI Y 34 5 1) 34 6 ((setI Y 34 5 1).1 34 4)).1 34 6 = nI p' := by rw [rdI_eq, rdI_nk (by decide)]; exact q2
    have hy5 : (setI (setI Y 34 5 1) 34 6 ((setI Y 34 5 1).1 34 4)).1 34 5 = 1 := by rw [rdI_nk (by decide), rdI_eq]
    have hyn : ∀ q k, q ≠ 34 → (setI (setI Y 34 5 1) 34 6 ((setI Y 34 5 1).1 34 4)).1 q k = Y.1 q k := fun q k a => by rw [rdI_ne a, rdI_ne a]
    have hy2 : (setI (setI Y 34 5 1) 34 6 ((setI Y 34 5 1).1 34 4)).2 = Y.2 := rfl
    generalize setI (setI Y 34 5 1) 34 6 ((setI Y 34 5 1).1 34 4) = Y1 at *
    have hpos : errPosF Y1 = w.1 3 p' := by
      unfold errPosF
      rw [hy5, if_neg (by decide), hy6, start_ok ((hyn 3 4 (by decide)).trans f5) q1 hN, hyn 6 p' (by decide)]
      exact f6 p' q1
    rw [hy5, if_neg (show ¬ (1 : Int32) = 0 by decide), hpos]
    dsimp only
    rw [if_neg (show ¬ (1 : Int32) ≤ 0 by decide)]
    refine ⟨1, _, _, rfl, rfl, IVi (refuse h (fun q k a b => ?_) (fun q k a => ?_) (fun q k a => ?_) ?_ rdI_eq ?_)⟩
    · rw [rdI_ne (by omega), hyn q k b]; exact f1 q k a b
    · show Y1.2 q k = _
      rw [hy2]; exact f2 q k a
    · rw [rdI, if_neg (by omega), rdI, if_neg (by omega)]; exact f3 q k a
    · rw [rdI_ne (by decide), hyn 1 1 (by decide)]; exact f4
    · rw [rdI_eq, rdI_nk (by decide), rdI_eq]
  · obtain ⟨f1, f2, f3, f4, f5, f6⟩ := frx g4
    have hb := g3.1
    have w0 : w.1 21 0 = 0 ∧ w.1 21 1 = 0 ∧ w.1 21 5 = 0 := ⟨(g4.2.2 21 0 (by decide) (by decide) (by omega) (by omega)).trans (hZ0 21 0 (by decide) (by decide)), (g4.2.2 21 1 (by decide) (by decide) (by omega) (by omega)).trans (hZ0 21 1 (by decide) (by decide)), (g4.2.2 21 5 (by decide) (by decide) (by omega) (by omega)).trans (hZ0 21 5 (by decide) (by decide))⟩
    have w22 : ∀ q k, 22 ≤ q → q ≤ 26 → w.1 q k = 0 := fun q k a b => (g4.2.2 q k (by omega) b (by omega) (by omega)).trans (hZ0 q k (by omega) (by omega))
    have w66 : ∀ k, k < N → w.1 6 k = 0 := fun k hk => (g4.2.2 6 k (by decide) (by decide) (by omega) (by omega)).trans ((ZPn 6 k (by omega)).trans (T2 k hk).2)
    have w03 : w.1 0 3 = -1 := (g4.2.2 0 3 (by decide) (by decide) (by omega) (by omega)).trans ((ZPn 0 3 (by omega)).trans ((T5 0 3 (by omega)).trans zc3))
    obtain ⟨R1, R2⟩ := read2_ok g3 w0 w22 w66
    rw [g1, obT, fi_t g2, hb.z9]
    dsimp only
    by_cases h5 : (planL 400 XP).2.1 34 5 = 0
    · obtain ⟨F', S', O', v, a1, a2, a3, a4, a5, a6, a7, a8⟩ := R2 h5
      have hpos : errPosF (planL 400 XP).2 = -1 := by unfold errPosF; rw [if_pos h5]
      rw [a1, ob_some1, if_pos (Int32.le_refl _), h5, if_pos rfl, hpos]
      have hky : KeyR (planL 400 XP).2 := fun k => (f2 4 k (Or.inr rfl)).trans (hKey k)
      have hPN := hb.N
      obtain ⟨l', r', m', hB⟩ := take_in a2 hb.2.2.2.2.2.1 (show c ≤ 400 by have := g3.2.1; omega) (show e ≤ 800 by have := g3.2.2.1; omega) a3 a4 a5 a6 (fun q k hq => a8 q k ⟨by omega, by omega, by omega, by omega⟩ (by omega)) a7 f4 ((a8 0 3 ⟨by decide, by omega, by omega, by omega⟩ (by decide)).trans w03) hky
      exact ⟨0, _, _, rfl, rfl, IVi hB⟩
    · obtain ⟨t, v, a1, a2, a3, a4, a5, a6⟩ := R1 h5
      have hpos : errPosF (planL 400 XP).2 = w.1 3 t := by
        unfold errPosF
        rw [if_neg h5, a2, start_ok f5 a1 hN]
        exact f6 t a1
      rw [a4, ob_some1, if_neg a3, if_neg h5, hpos]
      refine ⟨_, _, _, rfl, rfl, IVi (refuse h (fun q k a b => ?_) (fun q k a => f2 q k a) (fun q k a => ?_) ?_ rdI_eq ?_)⟩
      · rw [rdI_ne (by omega)]; exact f1 q k a b
      · rw [rdI, if_neg (by omega), a6 q k ⟨by omega, by omega, by omega, by omega⟩ (by omega)]; exact f3 q k a
      · rw [rdI_ne (by decide)]; exact f4
      · rw [rdI_eq, rdI_nk (by decide)]; exact a5.symm
theorem spec_all : Spec (IV RR0) := spec_of3 ag_teach
