/-! Small things out of whole's rows, 3 -/
theorem ords_1 {c : Nat} {x : XS} {q k : Nat} (h : jq q) (hc : q ≠ c) (n : Nat) : (itP (ordF c) n x).1 q k = x.1 q k :=
  itP_rel (P := fun _ (u : XS) => u.1 q k = x.1 q k) rfl (fun j _ u hu => (ord_1 h hc).trans hu)
theorem ccopy_1 {x : XS} {q k : Nat} (h : q ≠ 47) : (ccopyF x).1 q k = x.1 q k := (rdI_ne h).trans ((rdI_ne h).trans (rdI_ne h))
theorem ccopy_s (x : XS) : (ccopyF x).1 47 0 = x.1 46 0 ∧ (ccopyF x).1 47 1 = x.1 46 1 ∧ (ccopyF x).1 47 2 = x.1 46 2 := by
  unfold ccopyF
  dsimp only
  refine ⟨?_, ?_, ?_⟩
  · rw [rdI_nk (by decide), rdI_nk (by decide), rdI_eq]
  · rw [rdI_nk (by decide), rdI_eq, rdI_ne (by decide)]
  · rw [rdI_eq, rdI_ne (by decide), rdI_ne (by decide)]
theorem day46 {x : XS} {k : Nat} : (dayF 47 x).1 46 k = x.1 46 k := by
  unfold dayF
  dsimp only
  rw [rdI_ne (by decide)]
  exact ords_1 (by unfold jq; omega) (by decide) _
theorem pass46 {p : Int32} {x : XS} {k : Nat} : (passF 47 p x).1 46 k = x.1 46 k :=
  itP_rel (f := fun _ => dayF 47) (P := fun _ (u : XS) => u.1 46 k = x.1 46 k) rfl (fun _ _ u hu => day46.trans hu)
theorem cN_w (b : Bok) (m k : Nat) : cN (Pm b m) (bF b) (2 + k) = nW b m k := by
  unfold cN nW
  rw [if_neg (by omega), if_neg (by omega), show 2 + k - 2 = k by omega]
theorem mul_nI (u v : Nat) : nI u * nI v = nI (u * v) := (Int32.ofNat_mul _ _).symm
theorem okI_bin {b : Bok} {it : Int32 × Int32 × Int32} {n : Nat} (h : it.1 = 42 ∨ it.1 = 45 ∨ it.1 = 47 ∨ it.1 = 60 ∨ it.1 = 61 ∨ it.1 = 62 ∨ it.1 = 256 ∨ it.1 = 306 ∨ it.1 = 324) (hn : 2 ≤ n) : okI b it n := by
  refine Or.inr (Or.inr (Or.inr (Or.inr (Or.inr ⟨?_, hn⟩))))
  rcases h with h | h | h | h | h | h | h | h | h <;> rw [h] <;> decide
theorem b2i_nz (u : Bool) : decide (¬ b2i u = 0) = u := by cases u <;> decide
section DUE
variable {c : Nat} {b : Bok} {m dy ca : Nat} {x : XS}
theorem due_val (hW : BW b) {j : Nat} (hj : j < bM b) (hdy : dy < 1000) (hk : ¬ bo b j 2 = 0) : okL b m dy (cdT b j) [] ∧ ∃ v, evL b m dy (cdT b j) [] = [v] ∧ decide (¬ v = 0) = dueB b m dy j := by
  have B := hW.2.2.2.2 j hj
  have hF := hW.1
  have hS := hW.2.1
  have hA : bo b j 3 % (2 * bF b) < 2 * bF b := Nat.mod_lt _ (by omega)
  have hA4 : bo b j 4 % (2 * bF b) < 2 * bF b := Nat.mod_lt _ (by omega)
  have hb := nP_le hW m
  unfold cdT dueB
  dsimp only
  rw [if_neg hk, if_neg hk]
  by_cases h1 : bo b j 2 = 1
  · rw [if_pos h1, if_pos h1]
    refine ⟨⟨(by first | exact Or.inl (Or.inl rfl) | exact Or.inl (Or.inr (Or.inl rfl)) | exact Or.inl (Or.inr (Or.inr (Or.inl rfl))) | exact Or.inl (Or.inr (Or.inr (Or.inr (Or.inl rfl)))) | exact Or.inl (Or.inr (Or.inr (Or.inr (Or.inr rfl))))), (Nat.le_of_ble_eq_true rfl), (by first | exact Or.inl (Or.inl rfl) | exact Or.inl (Or.inr (Or.inl rfl)) | exact Or.inl (Or.inr (Or.inr (Or.inl rfl))) | exact Or.inl (Or.inr (Or.inr (Or.inr (Or.inl rfl)))) | exact Or.inl (Or.inr (Or.inr (Or.inr (Or.inr rfl))))), (Nat.le_of_ble_eq_true rfl), (by first | exact Or.inl (Or.inl rfl) | exact Or.inl (Or.inr (Or.inl rfl)) | exact Or.inl (Or.inr (Or.inr (Or.inl rfl))) | exact Or.inl (Or.inr (Or.inr (Or.inr (Or.inl rfl)))) | exact Or.inl (Or.inr (Or.inr (Or.inr (Or.inr rfl))))), (Nat.le_of_ble_eq_true rfl), okI_bin (by decide) (Nat.le_of_ble_eq_true rfl), (Nat.le_of_ble_eq_true rfl), (by first | exact Or.inl (Or.inl rfl) | exact Or.inl (Or.inr (Or.inl rfl)) | exact Or.inl (Or.inr (Or.inr (Or.inl rfl))) | exact Or.inl (Or.inr (Or.inr (Or.inr (Or.inl rfl)))) | exact Or.inl (Or.inr (Or.inr (Or.inr (Or.inr rfl))))), (Nat.le_of_ble_eq_true rfl), okI_bin (by decide) (Nat.le_of_ble_eq_true rfl), (Nat.le_of_ble_eq_true rfl), okI_bin (by decide) (Nat.le_of_ble_eq_true rfl), (Nat.le_of_ble_eq_true rfl), (by first | exact Or.inl (Or.inl rfl) | exact Or.inl (Or.inr (Or.inl rfl)) | exact Or.inl (Or.inr (Or.inr (Or.inl rfl))) | exact Or.inl (Or.inr (Or.inr (Or.inr (Or.inl rfl)))) | exact Or.inl (Or.inr (Or.inr (Or.inr (Or.inr rfl))))), (Nat.le_of_ble_eq_true rfl), okI_bin (by decide) (Nat.le_of_ble_eq_true rfl), (Nat.le_of_ble_eq_true rfl), trivial⟩, combF 61 (combF 45 (nI dy) (combF 42 (combF 47 (nI dy) 3) 3)) (nI (bo b j 3 % 3)), rfl, ?_⟩
    have e1 : combF 45 (nI dy) (combF 42 (combF 47 (nI dy) 3) 3) = nI (dy % 3) := by
      show nI dy - (nI dy / nI 3) * nI 3 = _
      exact rem_nI (by omega) (by decide) (by decide)
    rw [e1]
    show decide (¬ b2i (cmpB 61 (nI (dy % 3)) (nI (bo b j 3 % 3))) = 0) = _
    rw [b2i_nz]
    show (if nI (dy % 3) = nI (bo b j 3 % 3) then true else false) = _
    by_cases e : dy % 3 = bo b j 3 % 3
    · rw [e, if_pos rfl, decide_eq_true rfl]
    · rw [if_neg (fun z => e ((nI_eq (by omega) (by omega)).mp z)), decide_eq_false e]
  rw [if_neg h1, if_neg h1]
  by_cases h2 : bo b j 2 = 2
  · rw [if_pos h2, if_pos h2]
    refine ⟨⟨Or.inr (Or.inl ⟨rfl, _, rfl, hA⟩), (Nat.le_of_ble_eq_true rfl), trivial⟩, (if nI (nW b m (nI (bo b j 3 % (2 * bF b))).toNatClampNeg) ≤ 0 then 0 else 1), rfl, ?_⟩
    have hw := nW_le hW m (bo b j 3 % (2 * bF b))
    rw [nI_clamp (by omega), cN_w]
    by_cases e : 0 < nW b m (bo b j 3 % (2 * bF b))
    · rw [if_neg (fun z => by have := (nz_le (by omega)).mp z; omega), decide_eq_true e]; decide
    · rw [if_pos ((nz_le (n := nW b m (bo b j 3 % (2 * bF b))) (by omega)).mpr (by omega)), decide_eq_false e]; decide
  rw [if_neg h2, if_neg h2]
  by_cases h3 : bo b j 2 = 3
  · rw [if_pos h3, if_pos h3]
    refine ⟨⟨Or.inr (Or.inr (Or.inl ⟨rfl, _, rfl, B.2.2.2.2.1⟩)), (Nat.le_of_ble_eq_true rfl), Or.inr (Or.inr (Or.inr (Or.inr (Or.inl ⟨rfl, (Nat.le_of_ble_eq_true rfl)⟩)))), (Nat.le_of_ble_eq_true rfl), (by first | exact Or.inl (Or.inl rfl) | exact Or.inl (Or.inr (Or.inl rfl)) | exact Or.inl (Or.inr (Or.inr (Or.inl rfl))) | exact Or.inl (Or.inr (Or.inr (Or.inr (Or.inl rfl)))) | exact Or.inl (Or.inr (Or.inr (Or.inr (Or.inr rfl))))), (Nat.le_of_ble_eq_true rfl), (by first | exact Or.inl (Or.inl rfl) | exact Or.inl (Or.inr (Or.inl rfl)) | exact Or.inl (Or.inr (Or.inr (Or.inl rfl))) | exact Or.inl (Or.inr (Or.inr (Or.inr (Or.inl rfl)))) | exact Or.inl (Or.inr (Or.inr (Or.inr (Or.inr rfl))))), (Nat.le_of_ble_eq_true rfl), okI_bin (by decide) (Nat.le_of_ble_eq_true rfl), (Nat.le_of_ble_eq_true rfl), okI_bin (by decide) (Nat.le_of_ble_eq_true rfl), (Nat.le_of_ble_eq_true rfl), trivial⟩, combF 306 (if b2i (m.testBit (nI (bo b j 4)).toNatClampNeg) = 0 then 1 else 0) (combF 60 (nI (nS b m)) (nI (bo b j 3))), rfl, ?_⟩
    have hct := fb_ct_le m.testBit (bS b)
    rw [nI_clamp (show bo b j 4 < 2 ^ 31 by omega)]
    have e1 : combF 60 (nI (nS b m)) (nI (bo b j 3)) = b2i (decide (nS b m < bo b j 3)) := by
      show b2i (if nI (bo b j 3) ≤ nI (nS b m) then false else true) = _
      by_cases e : nS b m < bo b j 3
      · rw [if_neg (fun z => by have := (nI_leq (by omega) (by unfold nS; omega)).mp z; omega), decide_eq_true e]
      · rw [if_pos ((nI_leq (by omega) (by unfold nS; omega)).mpr (by omega)), decide_eq_false e]
    rw [e1]
    show decide (¬ ((if b2i (m.testBit (bo b j 4)) = 0 then (1 : Int32) else 0) ||| b2i (decide (nS b m < bo b j 3))) = 0) = (!m.testBit (bo b j 4) || decide (nS b m < bo b j 3))
    cases m.testBit (bo b j 4) <;> cases decide (nS b m < bo b j 3) <;> decide
  rw [if_neg h3, if_neg h3]
  by_cases h4 : bo b j 2 = 4
  · rw [if_pos h4, if_pos h4]
    refine ⟨⟨Or.inr (Or.inr (Or.inr (Or.inl ⟨rfl, _, _, rfl, rfl, hA, hA4⟩))), (Nat.le_of_ble_eq_true rfl), (by first | exact Or.inl (Or.inl rfl) | exact Or.inl (Or.inr (Or.inl rfl)) | exact Or.inl (Or.inr (Or.inr (Or.inl rfl))) | exact Or.inl (Or.inr (Or.inr (Or.inr (Or.inl rfl)))) | exact Or.inl (Or.inr (Or.inr (Or.inr (Or.inr rfl))))), (Nat.le_of_ble_eq_true rfl), (by first | exact Or.inl (Or.inl rfl) | exact Or.inl (Or.inr (Or.inl rfl)) | exact Or.inl (Or.inr (Or.inr (Or.inl rfl))) | exact Or.inl (Or.inr (Or.inr (Or.inr (Or.inl rfl)))) | exact Or.inl (Or.inr (Or.inr (Or.inr (Or.inr rfl))))), (Nat.le_of_ble_eq_true rfl), okI_bin (by decide) (Nat.le_of_ble_eq_true rfl), (Nat.le_of_ble_eq_true rfl), okI_bin (by decide) (Nat.le_of_ble_eq_true rfl), (Nat.le_of_ble_eq_true rfl), trivial⟩, combF 324 (b2i (RB b m (nI (bo b j 4 % (2 * bF b))).toNatClampNeg (nI (bo b j 3 % (2 * bF b))).toNatClampNeg)) (combF 62 (nI (pN (bF b) (RB b m))) (nI (bo b j 5))), rfl, ?_⟩
    have hct := fb_ct_le (fun k => decide (lst (RB b m) k = k)) (2 * bF b)
    rw [nI_clamp (show bo b j 4 % (2 * bF b) < 2 ^ 31 by omega), nI_clamp (show bo b j 3 % (2 * bF b) < 2 ^ 31 by omega)]
    have e1 : combF 62 (nI (pN (bF b) (RB b m))) (nI (bo b j 5)) = b2i (decide (bo b j 5 < pN (bF b) (RB b m))) := by
      show b2i (if nI (pN (bF b) (RB b m)) ≤ nI (bo b j 5) then false else true) = _
      by_cases e : bo b j 5 < pN (bF b) (RB b m)
      · rw [if_neg (fun z => by have := (nI_leq (by unfold pN; omega) (by omega)).mp z; omega), decide_eq_true e]
      · rw [if_pos ((nI_leq (by unfold pN; omega) (by omega)).mpr (by omega)), decide_eq_false e]
    rw [e1]
    show decide (¬ (b2i (RB b m (bo b j 4 % (2 * bF b)) (bo b j 3 % (2 * bF b))) &&& b2i (decide (bo b j 5 < pN (bF b) (RB b m)))) = 0) = _
    cases RB b m (bo b j 4 % (2 * bF b)) (bo b j 3 % (2 * bF b)) <;> cases decide (bo b j 5 < pN (bF b) (RB b m)) <;> decide
  rw [if_neg h4, if_neg h4]
  refine ⟨⟨(by first | exact Or.inl (Or.inl rfl) | exact Or.inl (Or.inr (Or.inl rfl)) | exact Or.inl (Or.inr (Or.inr (Or.inl rfl))) | exact Or.inl (Or.inr (Or.inr (Or.inr (Or.inl rfl)))) | exact Or.inl (Or.inr (Or.inr (Or.inr (Or.inr rfl))))), (Nat.le_of_ble_eq_true rfl), (by first | exact Or.inl (Or.inl rfl) | exact Or.inl (Or.inr (Or.inl rfl)) | exact Or.inl (Or.inr (Or.inr (Or.inl rfl))) | exact Or.inl (Or.inr (Or.inr (Or.inr (Or.inl rfl)))) | exact Or.inl (Or.inr (Or.inr (Or.inr (Or.inr rfl))))), (Nat.le_of_ble_eq_true rfl), (by first | exact Or.inl (Or.inl rfl) | exact Or.inl (Or.inr (Or.inl rfl)) | exact Or.inl (Or.inr (Or.inr (Or.inl rfl))) | exact Or.inl (Or.inr (Or.inr (Or.inr (Or.inl rfl)))) | exact Or.inl (Or.inr (Or.inr (Or.inr (Or.inr rfl))))), (Nat.le_of_ble_eq_true rfl), okI_bin (by decide) (Nat.le_of_ble_eq_true rfl), (Nat.le_of_ble_eq_true rfl), okI_bin (by decide) (Nat.le_of_ble_eq_true rfl), (Nat.le_of_ble_eq_true rfl), trivial⟩, combF 256 (nI (nP b m)) (combF 42 4 (nI (bo b j 3))), rfl, ?_⟩
  have e1 : combF 42 4 (nI (bo b j 3)) = nI (4 * bo b j 3) := mul_nI 4 _
  rw [e1, cN_0]
  show decide (¬ b2i (if nI (4 * bo b j 3) < nI (nP b m) then false else true) = 0) = decide (nP b m ≤ 4 * bo b j 3)
  rw [b2i_nz]
  by_cases e : nP b m ≤ 4 * bo b j 3
  · rw [if_neg (fun z => by have := (nI_ltI (by omega) (by omega)).mp z; omega), decide_eq_true e]
  · rw [if_pos ((nI_ltI (by omega) (by omega)).mpr (by omega)), decide_eq_false e]
theorem due_ok (hc : isC c) (h : CoC c b m dy ca x) {j : Nat} (hj : j < bM b) (hdy : dy < 1000) : ∃ x', dueU c (nI j) x = (dueB b m dy j, x') ∧ CoC c b m dy ca x' := by
  have hW := h.1.2.2.2.2.2.2
  have hM := hW.2.2.2.1
  obtain ⟨o1, o2, s, o3, o4, o5, o6⟩ := h.1.2.2.2.2.1.2 j hj
  unfold dueU
  rw [entI_nI (show j < 16 by omega) (by decide), entI_nI (show j < 16 by omega) (by decide), o3, o4]
  by_cases hk : bo b j 2 = 0
  · have hl : (cdT b j).length = 0 := by unfold cdT; dsimp only; rw [if_pos hk]; rfl
    rw [hl, if_pos ((nI_leq (by omega) (by omega)).mpr (by omega))]
    exact ⟨x, by unfold dueB; rw [if_pos hk], h⟩
  · obtain ⟨k1, v, k2, k3⟩ := due_val (m := m) hW hj hdy hk
    have hl : 0 < (cdT b j).length := by
      rcases Nat.eq_zero_or_pos (cdT b j).length with z | z
      · rw [List.length_eq_zero_iff.mp z] at k2; cases k2
      · exact z
    rw [if_neg (fun z => by have := (nI_leq (by omega) (by omega)).mp z; omega)]
    dsimp only
    have e9 : ((nI (s + (cdT b j).length)).toInt - (nI s).toInt).toNat = (cdT b j).length := by
      rw [nI_toInt (by omega), nI_toInt (by omega)]; omega
    rw [e9]
    have hc' := hc
    unfold isC at hc'
    have h0 : JC c b m dy ca (setI x 44 4 0) [] := ⟨h.mv (h.1.st (fun q k h1 _ _ _ => rdI_ne h1) rfl) (fun k => rdI_ne (by omega)), rdI_eq, Nat.zero_le _, trivial⟩
    have h1 := run_code hc (cdT b j) s _ [] h0 o5 (fun i hi => by
      obtain ⟨g1, g2, g3⟩ := o6 i hi
      exact ⟨by rw [rdI_ne (by decide)]; exact g1, fun z => by rw [rdI_ne (by decide)]; exact g2 z, fun z => by rw [rdI_ne (by decide)]; exact g3 z⟩) k1
    rw [k2] at h1
    obtain ⟨p1, p2⟩ := J_pop hc h1
    exact ⟨_, by rw [p1, k3], p2.1⟩
theorem change_ok (hc : isC c) (h : CoC c b m dy ca x) {t : Nat} (ht : t < bS b) (u : Bool) : CoC c b (setM m t u) dy (ca + if m.testBit t = u then 0 else 1) (changeF x c (nI t) u) := by
  have hW := h.1.2.2.2.2.2.2
  have hS := hW.2.1
  have m20 : m < 2 ^ 20 := Nat.lt_of_lt_of_le h.2.1 (Nat.pow_le_pow_right (by decide) (by omega))
  have hb : bit (nI m) t = m.testBit t := bit_nI (Nat.lt_of_lt_of_le m20 (by decide)) t
  unfold isC at hc
  unfold changeF setM
  rw [h.2.2.1, hasB_bit (show t < 32 by omega), hb]
  by_cases e : m.testBit t = u
  · rw [if_pos e, if_pos e, if_pos e]; exact h
  · rw [if_neg e, if_neg e, if_neg e]
    dsimp only
    have hv : (if u = true then withI (nI m) (nI t) else withoutI (nI m) (nI t)) = nI (m ^^^ 2 ^ t) := by
      cases u with
      | true => rw [if_pos rfl]; exact with_nI m20 (by omega) (by rw [hb]; cases hq : m.testBit t; rfl; exact absurd hq e)
      | false => rw [if_neg (by decide)]; exact without_nI m20 (by omega) (by rw [hb]; cases hq : m.testBit t; exact absurd hq e; rfl)
    rw [hv]
    refine ⟨h.1.st (fun q k _ _ h1 h2 => (rdI_ne (by omega)).trans (rdI_ne (by omega))) rfl, xor_lt h.2.1 ht, ?_, ?_, ?_⟩
    · rw [rdI_nk (by decide), rdI_eq]
    · rw [rdI_nk (by decide), rdI_nk (by decide)]; exact h.2.2.2.1
    · rw [rdI_eq, rdI_nk (by decide), h.2.2.2.2, nI_1]
theorem step_ok (hc : isC c) (h : CoC c b m dy ca x) {j : Nat} (hj : j < bM b) (hdy : dy < 1000) : CoC c b (ordS b dy j (m, ca)).1 dy (ordS b dy j (m, ca)).2 (ordF c j x) := by
  have hW := h.1.2.2.2.2.2.2
  have hM := hW.2.2.2.1
  obtain ⟨x', d1, d2⟩ := due_ok hc h hj hdy
  unfold ordF ordS
  rw [d1]
  dsimp only
  cases dueB b m dy j with
  | false => rw [if_neg (by decide), if_neg (by decide)]; exact d2
  | true =>
    rw [if_pos rfl, if_pos rfl]
    obtain ⟨o1, o2, -⟩ := d2.1.2.2.2.2.1.2 j hj
    rw [entI_nI (show j < 16 by omega) (by decide), entI_nI (show j < 16 by omega) (by decide), o1, o2]
    have e : decide (b2i (decide (bo b j 0 = 2)) = 1) = decide (bo b j 0 = 2) := by cases decide (bo b j 0 = 2) <;> decide
    rw [e]
    exact change_ok hc d2 (hW.2.2.2.2 j hj).2.1 _
theorem ords_ok (hc : isC c) (h : CoC c b m dy ca x) (hdy : dy < 1000) : ∀ n, n ≤ bM b → CoC c b (dayS b dy n (m, ca)).1 dy (dayS b dy n (m, ca)).2 (itP (ordF c) n x)
  | 0, _ => h
  | n + 1, hn => by
    have ih := ords_ok hc h hdy n (by omega)
    show CoC c b (ordS b dy n (dayS b dy n (m, ca))).1 dy (ordS b dy n (dayS b dy n (m, ca))).2 (ordF c n (itP (ordF c) n x))
    exact step_ok hc ih (by omega) hdy
/-- a day: what stands, the orders that changed something -/
def dayN (b : Bok) (dy : Nat) (s : Nat × Nat) : Nat × Nat := dayS b dy (bM b) s
theorem day_ok (hc : isC c) (h : CoC c b m dy ca x) (hdy : dy < 1000) : CoC c b (dayN b dy (m, ca)).1 (dy + 1) (dayN b dy (m, ca)).2 (dayF c x) := by
  have hM := h.1.2.2.2.2.2.2.2.2.2.1
  have h1 := ords_ok hc h hdy (bM b) (Nat.le_refl _)
  unfold dayF
  rw [h.1.2.2.2.2.1.1, nI_clamp (by omega)]
  dsimp only
  have hc' := hc
  unfold isC at hc'
  rw [h1.2.2.2.1, nI_1]
  refine ⟨h1.1.st (fun q k _ _ h1 h2 => rdI_ne (by omega)) rfl, h1.2.1, ?_, rdI_eq, ?_⟩
  · rw [rdI_nk (by decide)]; exact h1.2.2.1
  · rw [rdI_nk (by decide)]; exact h1.2.2.2.2
/-- days, one after another -/
def daysN (b : Bok) (dy : Nat) : Nat → Nat × Nat → Nat × Nat
  | 0, s => s
  | n + 1, s => dayN b (dy + n) (daysN b dy n s)
theorem pass_ok (hc : isC c) (h : CoC c b m dy ca x) : ∀ n, dy + n ≤ 1000 → CoC c b (daysN b dy n (m, ca)).1 (dy + n) (daysN b dy n (m, ca)).2 (itP (fun _ => dayF c) n x)
  | 0, _ => h
  | n + 1, hn => by
    have ih := pass_ok hc h n (by omega)
    exact day_ok hc ih (by omega)
theorem q_pass (h : Cls b m dy ca x) {n : Nat} (h1 : 1 ≤ n) (h2 : n ≤ 30) (hdy : dy + n ≤ 1000) : Ans b (daysN b dy n (m, ca)).1 (dy + n) (daysN b dy n (m, ca)).2 (f_X8_passDays (nI n) x) (.int (nI (daysN b dy n (m, ca)).2 - nI ca)) := by
  have hp := pass_ok (Or.inl rfl) (CoC_46.mpr h) n hdy
  unfold f_X8_passDays f_X8_needDays passF
  rw [if_neg (show ¬ nI n < (1 : Int32) from fun z => by have := (nI_ltI (b := 1) (by omega) (by decide)).mp z; omega), if_pos (show nI n ≤ (30 : Int32) from (nI_leq (b := 30) (by omega) (by decide)).mpr h2), ob_some1, rbo_inr1, nI_clamp (by omega), hp.2.2.2.2, h.2.2.2.2]
  exact ⟨_, rfl, hp⟩
theorem Cls.to47 (h : Cls b m dy ca x) : CoC 47 b m dy ca (ccopyF x) := by
  obtain ⟨s1, s2, s3⟩ := ccopy_s x
  refine ⟨h.1.st (fun q k _ _ _ h2 => ccopy_1 h2) rfl, h.2.1, ?_, ?_, ?_⟩
  · rw [s2]; exact h.2.2.1
  · rw [s1]; exact h.2.2.2.1
  · rw [s3]; exact h.2.2.2.2
theorem CoC.back {m2 dy2 ca2 : Nat} {y : XS} (h : Cls b m dy ca x) (h2 : CoC 47 b m2 dy2 ca2 y) (e : ∀ k, y.1 46 k = x.1 46 k) : Cls b m dy ca y := ⟨h2.1, h.2.1, by rw [e]; exact h.2.2.1, by rw [e]; exact h.2.2.2.1, by rw [e]; exact h.2.2.2.2⟩
theorem p46 {n : Nat} {x : XS} {k : Nat} : (itP (fun _ => dayF 47) n (ccopyF x)).1 46 k = x.1 46 k := by
  refine (itP_rel (f := fun _ => dayF 47) (P := fun _ (u : XS) => u.1 46 k = (ccopyF x).1 46 k) rfl (fun j _ u hu => day46.trans hu)).trans (ccopy_1 (by decide))
theorem q_standingAfter (h : Cls b m dy ca x) {n : Nat} (h1 : 1 ≤ n) (h2 : n ≤ 30) (hdy : dy + n ≤ 1000) : Ans b m dy ca (f_X8_standingAfter (nI n) x) (.int (nI (nS b (daysN b dy n (m, ca)).1))) := by
  have hp := pass_ok (Or.inr rfl) h.to47 n hdy
  unfold f_X8_standingAfter f_X8_needDays passF
  rw [if_neg (show ¬ nI n < (1 : Int32) from fun z => by have := (nI_ltI (b := 1) (by omega) (by decide)).mp z; omega), if_pos (show nI n ≤ (30 : Int32) from (nI_leq (b := 30) (by omega) (by decide)).mpr h2), ob_some1, rbo_inr1, nI_clamp (by omega), hp.2.2.1, bc_nS h.bw hp.2.1]
  exact ⟨_, rfl, hp.back h (fun k => p46)⟩
theorem CoC.land47 {m2 dy2 ca2 : Nat} {y : XS} (h2 : CoC 47 b m2 dy2 ca2 y) : CoC 47 b m2 dy2 ca2 (landLook (y.1 47 1) y) ∧ countF y (y.1 47 1) = nI (nP b m2) := by
  have hl := h2.1.land1 (s := y.1 47 1) (by rw [h2.2.2.1]; exact h2.ne)
  refine ⟨h2.mv hl.1 (fun k => land_1 (by decide)), ?_⟩
  rw [h2.2.2.1]; exact count_eq h2.1.1.1 h2.1.1.2 h2.1.2.2.1 h2.ne
theorem q_peacesAfter (h : Cls b m dy ca x) {n : Nat} (h1 : 1 ≤ n) (h2 : n ≤ 30) (hdy : dy + n ≤ 1000) : Ans b m dy ca (f_X8_peacesAfter (nI n) x) (.int (nI (nP b (daysN b dy n (m, ca)).1))) := by
  have hp := pass_ok (Or.inr rfl) h.to47 n hdy
  unfold f_X8_peacesAfter f_X8_needDays passF
  rw [if_neg (show ¬ nI n < (1 : Int32) from fun z => by have := (nI_ltI (b := 1) (by omega) (by decide)).mp z; omega), if_pos (show nI n ≤ (30 : Int32) from (nI_leq (b := 30) (by omega) (by decide)).mpr h2), ob_some1, rbo_inr1, nI_clamp (by omega), hp.land47.2]
  exact ⟨_, rfl, hp.land47.1.back h (fun k => (land_1 (by decide)).trans p46)⟩
/-- the first day of peace is the j-th, or none of the first 31 is -/
def Unt (b : Bok) (m dy ca : Nat) (v : Int32) : Prop := (∃ j, j ≤ 30 ∧ v = nI j ∧ 0 < nP b (daysN b dy j (m, ca)).1 ∧ ∀ i, i < j → nP b (daysN b dy i (m, ca)).1 = 0) ∨ (v = -1 ∧ ∀ i, i ≤ 30 → nP b (daysN b dy i (m, ca)).1 = 0)
theorem pass1 (x : XS) : passF 47 1 x = dayF 47 x := rfl
theorem unt_loop (h0 : Cls b m dy ca x) (hdy : dy + 30 ≤ 1000) : ∀ (n j : Nat) (y : XS), 30 - j < n → j ≤ 30 → CoC 47 b (daysN b dy j (m, ca)).1 (dy + j) (daysN b dy j (m, ca)).2 y → (∀ k, y.1 46 k = x.1 46 k) → (∀ i, i < j → nP b (daysN b dy i (m, ca)).1 = 0) → ∃ v x', f_X8_daysUntilPeace_L13 n (nI j) y = some (v, x') ∧ Cls b m dy ca x' ∧ Unt b m dy ca v
  | 0, _, _, h, _, _, _, _ => absurd h (Nat.not_lt_zero _)
  | n + 1, j, y, hn, hj, hC, h46, hz => by
    obtain ⟨l1, l2⟩ := hC.land47
    have hb := nP_le h0.bw (daysN b dy j (m, ca)).1
    have e46 : ∀ k, (landLook (y.1 47 1) y).1 46 k = x.1 46 k := fun k => (land_1 (by decide)).trans (h46 k)
    rw [f_X8_daysUntilPeace_L13, l2]
    by_cases hp : 0 < nP b (daysN b dy j (m, ca)).1
    · have hne : ¬ nI (nP b (daysN b dy j (m, ca)).1) ≤ 0 := fun z => by have := (nz_le (by omega)).mp z; omega
      rw [if_neg hne, if_neg hne]
      by_cases hd : 30 ≤ j
      · obtain rfl : j = 30 := by omega
        rw [if_pos (show (30 : Int32) ≤ nI 30 by decide)]
        exact ⟨_, _, rfl, l1.back h0 e46, Or.inl ⟨30, by omega, rfl, hp, hz⟩⟩
      · rw [if_neg (show ¬ (30 : Int32) ≤ nI j from fun z => hd ((nI_leq (a := 30) (by decide) (by omega)).mp z))]
        exact ⟨_, _, rfl, l1.back h0 e46, Or.inl ⟨j, hj, rfl, hp, hz⟩⟩
    · have he : nI (nP b (daysN b dy j (m, ca)).1) ≤ 0 := (nz_le (by omega)).mpr (by omega)
      rw [if_pos he, if_pos he]
      by_cases hd : 30 ≤ j
      · obtain rfl : j = 30 := by omega
        rw [if_pos (show (30 : Int32) ≤ nI 30 by decide)]
        refine ⟨_, _, rfl, l1.back h0 e46, Or.inr ⟨rfl, fun i hi => ?_⟩⟩
        by_cases e : i = 30
        · rw [e]; omega
        · exact hz i (by omega)
      · rw [if_neg (show ¬ (30 : Int32) ≤ nI j from fun z => hd ((nI_leq (a := 30) (by decide) (by omega)).mp z)), nI_1, pass1]
        refine unt_loop h0 hdy n (j + 1) _ (by omega) (by omega) (day_ok (Or.inr rfl) l1 (by omega)) (fun k => day46.trans (e46 k)) (fun i hi => ?_)
        by_cases e : i = j
        · rw [e]; omega
        · exact hz i (by omega)
theorem q_until (h : Cls b m dy ca x) (hdy : dy + 30 ≤ 1000) : ∃ v, AnsI b m dy ca (f_X8_daysUntilPeace x) v ∧ Unt b m dy ca v := by
  obtain ⟨v, x', e1, e2, e3⟩ := unt_loop h hdy 40 0 (ccopyF x) (by omega) (Nat.zero_le _) h.to47 (fun k => ccopy_1 (by decide)) (fun i hi => absurd hi (by omega))
  exact ⟨v, ⟨x', e1, e2⟩, e3⟩
end DUE
