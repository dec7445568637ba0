/-! The draft becomes the book -/
theorem cp_ne {f n s : Nat} {y : XS} {q k : Nat} (h : q ≠ s + 13) : (cp1 f n s y).1 q k = y.1 q k := by
  show (if q = s + 13 ∧ k < _ then y.1 s k else y.1 q k) = _
  rw [if_neg (fun g => h g.1)]
theorem cp_v {f n s : Nat} {y : XS} {M k : Nat} (h : y.1 21 f = nI M) (hM : M ≤ n) (hn : n < 2 ^ 31) (hk : k < M) : (cp1 f n s y).1 (s + 13) k = y.1 s k := by
  show (if s + 13 = s + 13 ∧ k < min (y.1 21 f).toNatClampNeg (min n n) then y.1 s k else y.1 (s + 13) k) = _
  rw [h, nI_clamp (by omega), if_pos ⟨rfl, by omega⟩]
theorem mv_ne {f : Nat} {y : XS} {q k : Nat} (h : ¬ (q = 21 ∧ k = f)) : (mv1 f y).1 q k = y.1 q k := by unfold mv1; rw [rdI, if_neg h]
theorem mv_v {f : Nat} {y : XS} : (mv1 f y).1 21 f = y.1 8 f := rdI_eq
theorem copy_ok {x : XS} {S O c : Nat} (h1 : x.1 8 1 = nI S) (hS : S ≤ 20) (h7 : x.1 8 7 = nI O) (hO : O ≤ 16) (h12 : x.1 8 12 = nI c) (hc : c ≤ 400) :
    ((copyF x).1 21 0 = x.1 8 0 ∧ (copyF x).1 21 1 = nI S ∧ (copyF x).1 21 7 = nI O) ∧
    (∀ q k, 9 ≤ q → q ≤ 13 → k < S → (copyF x).1 (q + 13) k = x.1 q k) ∧ (∀ q k, 14 ≤ q → q ≤ 17 → k < O → (copyF x).1 (q + 13) k = x.1 q k) ∧ (∀ q k, 18 ≤ q → q ≤ 20 → k < c → (copyF x).1 (q + 13) k = x.1 q k) ∧
    (∀ q k, ¬ (21 ≤ q ∧ q ≤ 33) → (copyF x).1 q k = x.1 q k) ∧ (copyF x).2 = x.2 := by
  unfold copyF
  have y0 : (mv1 12 (mv1 7 (mv1 1 (mv1 0 x)))).1 21 0 = x.1 8 0 ∧ (mv1 12 (mv1 7 (mv1 1 (mv1 0 x)))).1 21 1 = nI S ∧ (mv1 12 (mv1 7 (mv1 1 (mv1 0 x)))).1 21 7 = nI O ∧ (mv1 12 (mv1 7 (mv1 1 (mv1 0 x)))).1 21 12 = nI c := by
    refine ⟨?_, ?_, ?_, ?_⟩
    · rw [mv_ne (by omega), mv_ne (by omega), mv_ne (by omega), mv_v]
    · rw [mv_ne (by omega), mv_ne (by omega), mv_v, mv_ne (by omega)]; exact h1
    · rw [mv_ne (by omega), mv_v, mv_ne (by omega), mv_ne (by omega)]; exact h7
    · rw [mv_v, mv_ne (by omega), mv_ne (by omega), mv_ne (by omega)]; exact h12
  have yq : ∀ q k, q ≠ 21 → (mv1 12 (mv1 7 (mv1 1 (mv1 0 x)))).1 q k = x.1 q k := fun q k h => by
    rw [mv_ne (fun g => h g.1), mv_ne (fun g => h g.1), mv_ne (fun g => h g.1), mv_ne (fun g => h g.1)]
  have y2 : (mv1 12 (mv1 7 (mv1 1 (mv1 0 x)))).2 = x.2 := rfl
  generalize mv1 12 (mv1 7 (mv1 1 (mv1 0 x))) = y at *
  obtain ⟨u0, u1, u7, u12⟩ := y0
  refine ⟨⟨?_, ?_, ?_⟩, fun q k a b hk => ?_, fun q k a b hk => ?_, fun q k a b hk => ?_, fun q k a => ?_, y2⟩
  · repeat rw [cp_ne (by decide)]
    exact u0
  · repeat rw [cp_ne (by decide)]
    exact u1
  · repeat rw [cp_ne (by decide)]
    exact u7
  · have hq : q = 9 ∨ q = 10 ∨ q = 11 ∨ q = 12 ∨ q = 13 := by omega
    rcases hq with rfl | rfl | rfl | rfl | rfl
    all_goals
      repeat rw [cp_ne (by decide)]
      rw [cp_v (M := S) (by (repeat rw [cp_ne (by decide)]); exact u1) (by omega) (by omega) hk]
      repeat rw [cp_ne (by decide)]
      exact yq _ _ (by decide)
  · have hq : q = 14 ∨ q = 15 ∨ q = 16 ∨ q = 17 := by omega
    rcases hq with rfl | rfl | rfl | rfl
    all_goals
      repeat rw [cp_ne (by decide)]
      rw [cp_v (M := O) (by (repeat rw [cp_ne (by decide)]); exact u7) (by omega) (by omega) hk]
      repeat rw [cp_ne (by decide)]
      exact yq _ _ (by decide)
  · have hq : q = 18 ∨ q = 19 ∨ q = 20 := by omega
    rcases hq with rfl | rfl | rfl
    all_goals
      repeat rw [cp_ne (by decide)]
      rw [cp_v (M := c) (by (repeat rw [cp_ne (by decide)]); exact u12) (by omega) (by omega) hk]
      repeat rw [cp_ne (by decide)]
      exact yq _ _ (by decide)
  · rw [cp_ne (by omega), cp_ne (by omega), cp_ne (by omega), cp_ne (by omega), cp_ne (by omega), cp_ne (by omega), cp_ne (by omega), cp_ne (by omega), cp_ne (by omega), cp_ne (by omega), cp_ne (by omega), cp_ne (by omega)]
    exact yq q k (by omega)
theorem all_m : ∀ S, S ≤ 20 → ((1 : Int32) <<< (nI S &&& 31)) - 1 = nI (2 ^ S - 1) := by decide +kernel
theorem tape_TL {x : XS} {ts : List Int32} (h : Tape x ts.length (tyB ts)) (hA : Asc ts) (hl : ts.length ≤ 2000) : TL x 0 ts := by
  refine ⟨by rw [Nat.zero_add]; exact h.1, by omega, hA, fun i hi => ?_⟩
  rw [Nat.zero_add, h.2 i hi, tyB_v hA hi]
theorem scan_ok {b : Bok} (hW : BW b) {x : XS} (hT : TL x 0 (bookT b)) (hK : KeyT kwT x) : (scanF x).1 3 4 = nI ((bookL b).length + 1) ∧ (∀ j, j < (bookL b).length → (scanF x).1 5 j = ((bookL b).getD j (0, 0)).1 ∧ (scanF x).2 7 j = ((bookL b).getD j (0, 0)).2) ∧ (scanF x).1 5 (bookL b).length = 260 := by
  have hl := book_len hW
  have z1 : TL (setI (setI x 3 4 0) 3 5 0) 0 (bookT b) := hT.of (by rw [rdI_ne (by decide), rdI_ne (by decide)]) (fun j => by rw [rdI_ne (by decide), rdI_ne (by decide)])
  have z2 : KeyT kwT (setI (setI x 3 4 0) 3 5 0) := fun j hj => hK j hj
  have z3 : (setI (setI x 3 4 0) 3 5 0).1 3 5 = nI 0 := rdI_eq
  have z4 : (setI (setI x 3 4 0) 3 5 0).1 3 4 = nI 0 := (rdI_nk (by decide)).trans rdI_eq
  unfold scanF
  generalize setI (setI x 3 4 0) 3 5 0 = Z at *
  have h := book_scan hW Z 0 0 402 263 z1 z2 z3 z4 (by omega) (by omega) (by decide) (by decide)
  generalize scanL 402 263 Z = y at *
  obtain ⟨a1, -, -, -, a5, a6⟩ := h
  rw [Nat.zero_add] at a1 a6
  refine ⟨a1, fun j hj => ?_, a6⟩
  have := a5 j hj
  rw [Nat.zero_add] at this; exact this
/-- the book told is the book read -/
theorem teach_ok {b : Bok} (hW : BW b) {x : XS} (hT : TL x 0 (bookT b)) (hK : KeyT kwT x) : (readF (setI (scanF x) 1 1 0)).1 34 5 = 0 ∧ Cls b (2 ^ bS b - 1) 0 0 (teachF x) := by
  obtain ⟨s1, s2, s3⟩ := scan_ok hW hT hK
  unfold teachF
  dsimp only
  generalize scanF x = y at *
  obtain ⟨c, hc, hD⟩ := read_ok hW (x := setI y 1 1 0) rdI_eq ((rdI_ne (by decide)).trans s1) (fun j hj => ⟨(rdI_ne (by decide)).trans (s2 j hj).1, (s2 j hj).2⟩) ((rdI_ne (by decide)).trans s3)
  generalize readF (setI y 1 1 0) = Y at *
  have h5 : Y.1 34 5 = 0 := hD.1.2.1
  refine ⟨h5, ?_⟩
  rw [if_pos h5]
  obtain ⟨⟨-, -, r3, r4, r5, r6, r7, r8, r9⟩, d1, d2, d3, d4⟩ := hD
  have hF := hW.1.2
  have hS := hW.2.1
  have hM := hW.2.2.2.1
  have Y8 : ∀ k, (setI Y 0 10 (errPosF Y)).1 8 k = Y.1 8 k := fun k => rdI_ne (by decide)
  obtain ⟨⟨c0, c1, c7⟩, cs, co, cc, cn, c2⟩ := copy_ok (x := setI Y 0 10 (errPosF Y)) (S := bS b) (O := bM b) (c := c) (by rw [Y8]; exact r7) (by omega) (by rw [Y8]; exact d3) (by omega) (by rw [Y8]; exact r3) hc
  rw [Y8, r4] at c0
  have cs' : ∀ q k, 9 ≤ q → q ≤ 13 → k < bS b → (copyF (setI Y 0 10 (errPosF Y))).1 (q + 13) k = Y.1 q k := fun q k a b d => (cs q k a b d).trans (rdI_ne (by omega))
  have co' : ∀ q k, 14 ≤ q → q ≤ 17 → k < bM b → (copyF (setI Y 0 10 (errPosF Y))).1 (q + 13) k = Y.1 q k := fun q k a b d => (co q k a b d).trans (rdI_ne (by omega))
  have cc' : ∀ q k, 18 ≤ q → q ≤ 20 → k < c → (copyF (setI Y 0 10 (errPosF Y))).1 (q + 13) k = Y.1 q k := fun q k a b d => (cc q k a b d).trans (rdI_ne (by omega))
  have c11 : (copyF (setI Y 0 10 (errPosF Y))).1 1 1 = 0 := (cn 1 1 (by omega)).trans ((rdI_ne (by decide)).trans d1)
  unfold startF
  generalize copyF (setI Y 0 10 (errPosF Y)) = C at *
  have hlr := hW.lr
  have hBX : BkX (setI C 37 5 (-1)) (bF b) (bS b) (bl b) (br b) := ⟨by omega, by omega, (rdI_ne (by decide)).trans c0, (rdI_ne (by decide)).trans c1, hlr, fun k hk => ⟨by rw [rdI_ne (by decide)]; exact (cs' 12 k (by decide) (by decide) hk).trans (d2 k hk).2.2.2.1, by rw [rdI_ne (by decide)]; exact (cs' 13 k (by decide) (by decide) hk).trans (d2 k hk).2.2.2.2⟩⟩
  obtain ⟨p1, p2', p3, p4⟩ := prep_ok hBX
  have p21 : (prepF (setI C 37 5 (-1))).1 21 1 = nI (bS b) := (p3 _ _ (by decide)).trans ((rdI_ne (by decide)).trans c1)
  have pC : ∀ q k, q ≠ 40 → q ≠ 37 → (prepF (setI C 37 5 (-1))).1 q k = C.1 q k := fun q k a b => (p3 q k a).trans (rdI_ne b)
  have p37 : (prepF (setI C 37 5 (-1))).1 37 5 = -1 := (p3 _ _ (by decide)).trans rdI_eq
  generalize prepF (setI C 37 5 (-1)) = X at *
  rw [p21]
  have bX : ∀ q k, q ≠ 46 → (beginF X (nI (bS b))).1 q k = X.1 q k := fun q k a => by unfold beginF; rw [rdI_ne a, rdI_ne a, rdI_ne a]
  have bX2 : (beginF X (nI (bS b))).2 = X.2 := rfl
  have b0 : (beginF X (nI (bS b))).1 46 0 = 0 := by unfold beginF; rw [rdI_nk (by decide), rdI_nk (by decide), rdI_eq]
  have b1' : (beginF X (nI (bS b))).1 46 1 = nI (2 ^ bS b - 1) := by unfold beginF; rw [rdI_nk (by decide), rdI_eq]; exact all_m (bS b) (by omega)
  have b2' : (beginF X (nI (bS b))).1 46 2 = 0 := by unfold beginF; exact rdI_eq
  generalize beginF X (nI (bS b)) = B at *
  have BC : ∀ q k, q ≠ 46 → q ≠ 40 → q ≠ 37 → B.1 q k = C.1 q k := fun q k a b d => (bX q k a).trans (pC q k b d)
  refine ⟨⟨⟨BkX_of (fun q k hq => (bX q k (by omega)).trans (p3 q k (by omega))) hBX, PeaB_of (bX _ _ (by decide)) (fun k => by rw [bX2]) p1⟩, Or.inl ((bX _ _ (by decide)).trans p37), Or.inl ((bX _ _ (by decide)).trans p2'), fun k hk => ?_, ⟨?_, fun j hj => ?_⟩, (BC 1 1 (by decide) (by decide) (by decide)).trans c11, hW⟩, ?_, b1', b0, b2'⟩
  · obtain ⟨e1, e2, e3, -, -⟩ := d2 k hk
    refine ⟨?_, ?_, ?_⟩
    · rw [BC 22 k (by decide) (by decide) (by decide), show (22 : Nat) = 9 + 13 from rfl, cs' 9 k (by decide) (by decide) hk]; exact e1
    · rw [BC 23 k (by decide) (by decide) (by decide), show (23 : Nat) = 10 + 13 from rfl, cs' 10 k (by decide) (by decide) hk]; exact e2
    · rw [BC 24 k (by decide) (by decide) (by decide), show (24 : Nat) = 11 + 13 from rfl, cs' 11 k (by decide) (by decide) hk]; exact e3
  · exact (BC 21 7 (by decide) (by decide) (by decide)).trans c7
  · obtain ⟨e1, e2, st, e3, e4, e5, e6⟩ := d4 j hj
    refine ⟨?_, ?_, st, ?_, ?_, by omega, fun i hi => ?_⟩
    · rw [BC 28 j (by decide) (by decide) (by decide), show (28 : Nat) = 15 + 13 from rfl, co' 15 j (by decide) (by decide) hj]; exact e2
    · rw [BC 27 j (by decide) (by decide) (by decide), show (27 : Nat) = 14 + 13 from rfl, co' 14 j (by decide) (by decide) hj]; exact e1
    · rw [BC 29 j (by decide) (by decide) (by decide), show (29 : Nat) = 16 + 13 from rfl, co' 16 j (by decide) (by decide) hj]; exact e3
    · rw [BC 30 j (by decide) (by decide) (by decide), show (30 : Nat) = 17 + 13 from rfl, co' 17 j (by decide) (by decide) hj]; exact e4
    · have := e6 i hi
      rw [BC 31 _ (by decide) (by decide) (by decide), show (31 : Nat) = 18 + 13 from rfl, cc' 18 _ (by decide) (by decide) (by omega), BC 32 _ (by decide) (by decide) (by decide), show (32 : Nat) = 19 + 13 from rfl, cc' 19 _ (by decide) (by decide) (by omega), BC 33 _ (by decide) (by decide) (by decide), show (33 : Nat) = 20 + 13 from rfl, cc' 20 _ (by decide) (by decide) (by omega)]
      exact this
  · have := Nat.two_pow_pos (bS b)
    omega
