/-! The orders' tests -/
theorem rd_val {F S : Nat} {t : Tok} {ts : List Tok} (f : Nat) (h : t.1 = 259 ∨ t.1 = 315 ∨ t.1 = 316 ∨ t.1 = 317 ∨ t.1 = 318) : RD F S (valU f) (t :: ts) ts [(t.1, t.2.toInt32, 0)] := by
  cases f with
  | zero => rw [valU]; exact rd_leaf h
  | succ f => rw [valU]; exact rd_leaf h
theorem rd_num {F S : Nat} {ts : List Tok} (f : Nat) {n : Nat} (hn : n < 100) : RD F S (valU f) (nuX n :: ts) ts [(259, nI n, 0)] := by
  have := rd_val (F := F) (S := S) (t := nuX n) (ts := ts) f (Or.inl rfl)
  rw [show (nuX n).2.toInt32 = nI n from (nn_ok n hn).2.2.2.2.2] at this
  exact this
theorem rd_wrd {F S : Nat} {ts : List Tok} (f : Nat) {j : Nat} {k : Int32} (hj : (kwX j).1 = k) (h : k = 315 ∨ k = 316 ∨ k = 317 ∨ k = 318) : RD F S (valU f) (kwX j :: ts) ts [(k, 0, 0)] := by
  intro x c hx hc
  obtain ⟨y, a1, a2, a3, a4, a5, a6⟩ := rd_val (F := F) (S := S) (t := kwX j) (ts := ts) f (Or.inr (by rw [hj]; exact h)) x c hx hc
  refine ⟨y, a1, a2, a3, a4, a5, fun i hi => ?_⟩
  have h0 : i = 0 := by rw [List.length_singleton] at hi; omega
  subst h0
  have := a6 0 (Nat.one_pos)
  refine ⟨this.1.trans hj, fun e => absurd e ?_, fun e => absurd e ?_⟩
  · show ¬ (k = 259 ∨ k = 319 ∨ k = 320 ∨ k = 321)
    rcases h with rfl | rfl | rfl | rfl <;> decide
  · show ¬ k = 321
    rcases h with rfl | rfl | rfl | rfl <;> decide
theorem rd_sum {F S f : Nat} {t u : Tok} {ts : List Tok} {l : List Cod} (h : RD F S (valU f) (t :: u :: ts) (u :: ts) l) (hu : u.1 ≠ 43 ∧ u.1 ≠ 45 ∧ u.1 ≠ 42 ∧ u.1 ≠ 47) : RD F S (sumU (valU f)) (t :: u :: ts) (u :: ts) l :=
  rd_one (rd_one h (hk_ne hu.2.2.1) (hk_ne hu.2.2.2)) (hk_ne hu.1) (hk_ne hu.2.1)
theorem d8 : ¬ (8 : Int32) ≤ nI (7 - 7) := by decide
theorem d8' : ¬ (8 : Int32) ≤ nI (7 - 6) := by decide
theorem sin8 : sinU 8 = sinS (nI (7 - 7)) (sinU 7) (valU 8) := rfl
theorem sin7 : sinU 7 = sinS (nI (7 - 6)) (sinU 6) (valU 7) := rfl
theorem rd_t1 {F S : Nat} {ts : List Tok} {n : Nat} (hn : n < 100) : RD F S (testU (sinU 8)) (kwX 15 :: syX 45 :: kwX 15 :: syX 47 :: nuX 3 :: syX 42 :: nuX 3 :: syX 61 :: nuX n :: syX 59 :: ts) (syX 59 :: ts) [(315, 0, 0), (315, 0, 0), (259, 3, 0), (47, 0, 0), (259, 3, 0), (42, 0, 0), (45, 0, 0), (259, nI n, 0), (61, 0, 0)] := by
  refine rd_one' (rd_one' ?_ (hk_ne (by decide))) (hk_ne (by decide))
  rw [sin8]
  have p1 : RD F S (op2U 42 47 (valU 8)) (kwX 15 :: syX 45 :: kwX 15 :: syX 47 :: nuX 3 :: syX 42 :: nuX 3 :: syX 61 :: nuX n :: syX 59 :: ts) (syX 45 :: kwX 15 :: syX 47 :: nuX 3 :: syX 42 :: nuX 3 :: syX 61 :: nuX n :: syX 59 :: ts) [(315, 0, 0)] :=
    rd_one (rd_wrd 8 (by decide) (Or.inl rfl)) (hk_ne (by decide)) (hk_ne (by decide))
  have p2 : RD F S (op2U 42 47 (valU 8)) (kwX 15 :: syX 47 :: nuX 3 :: syX 42 :: nuX 3 :: syX 61 :: nuX n :: syX 59 :: ts) (syX 61 :: nuX n :: syX 59 :: ts) [(315, 0, 0), (259, 3, 0), (47, 0, 0), (259, 3, 0), (42, 0, 0)] :=
    rd_op2 (l := [(315, 0, 0)]) (m := [(259, 3, 0), (47, 0, 0), (259, 3, 0), (42, 0, 0)]) (rd_wrd 8 (by decide) (Or.inl rfl)) (rdl_cons (l := [(259, 3, 0)]) (m := [(259, 3, 0), (42, 0, 0)]) (r := 399) (t := syX 47) (Or.inr rfl) (rd_num (n := 3) 8 (by decide)) (rdl_cons (l := [(259, 3, 0)]) (m := []) (r := 398) (t := syX 42) (Or.inl rfl) (rd_num (n := 3) 8 (by decide)) (rdl_stop (hk_ne (by decide)) (hk_ne (by decide)) 398)))
  have p3 : RD F S (sumU (valU 8)) (kwX 15 :: syX 45 :: kwX 15 :: syX 47 :: nuX 3 :: syX 42 :: nuX 3 :: syX 61 :: nuX n :: syX 59 :: ts) (syX 61 :: nuX n :: syX 59 :: ts) [(315, 0, 0), (315, 0, 0), (259, 3, 0), (47, 0, 0), (259, 3, 0), (42, 0, 0), (45, 0, 0)] :=
    rd_op2 (l := [(315, 0, 0)]) (m := [(315, 0, 0), (259, 3, 0), (47, 0, 0), (259, 3, 0), (42, 0, 0), (45, 0, 0)]) p1 (rdl_cons (l := [(315, 0, 0), (259, 3, 0), (47, 0, 0), (259, 3, 0), (42, 0, 0)]) (m := []) (r := 399) (t := syX 45) (Or.inr rfl) p2 (rdl_stop (hk_ne (by decide)) (hk_ne (by decide)) 399))
  exact rd_cmp (l := [(315, 0, 0), (315, 0, 0), (259, 3, 0), (47, 0, 0), (259, 3, 0), (42, 0, 0), (45, 0, 0)]) (m := [(259, nI n, 0)]) ⟨hk_ne (by decide), hk_ne (by decide), hk_ne (by decide), hk_ne (by decide), hk_ne (by decide)⟩ (t := syX 61) (by decide) p3 (rd_sum (rd_num 8 hn) (by decide))
theorem rd_t2 {F S c : Nat} {ts : List Tok} (hc : c < 2 * F) : RD F S (testU (sinU 8)) (kwX 19 :: (clX c ++ syX 59 :: ts)) (syX 59 :: ts) [(319, nI c, 0)] := by
  refine rd_one' (rd_one' ?_ (hk_ne (by decide))) (hk_ne (by decide))
  rw [sin8]; exact rd_pos hc
theorem rd_t3 {F S e n : Nat} {ts : List Tok} (he : e < S) (hn : n < 100) : RD F S (testU (sinU 8)) (kwX 23 :: kwX 20 :: stX e :: kwX 6 :: kwX 16 :: syX 60 :: nuX n :: syX 59 :: ts) (syX 59 :: ts) [(320, nI e, 0), (323, 0, 0), (316, 0, 0), (259, nI n, 0), (60, 0, 0), (306, 0, 0)] := by
  have p1 : RD F S (opsU 324 (sinU 8)) (kwX 23 :: kwX 20 :: stX e :: kwX 6 :: kwX 16 :: syX 60 :: nuX n :: syX 59 :: ts) (kwX 6 :: kwX 16 :: syX 60 :: nuX n :: syX 59 :: ts) [(320, nI e, 0), (323, 0, 0)] := by
    refine rd_one' ?_ (hk_ne (by decide))
    rw [sin8]
    refine rd_not (l := [(320, nI e, 0)]) (by decide) d8 ?_
    rw [sin7]; exact rd_sta he
  have p2 : RD F S (opsU 324 (sinU 8)) (kwX 16 :: syX 60 :: nuX n :: syX 59 :: ts) (syX 59 :: ts) [(316, 0, 0), (259, nI n, 0), (60, 0, 0)] := by
    refine rd_one' ?_ (hk_ne (by decide))
    rw [sin8]
    exact rd_cmp (l := [(316, 0, 0)]) (m := [(259, nI n, 0)]) ⟨hk_ne (by decide), hk_ne (by decide), hk_ne (by decide), hk_ne (by decide), hk_ne (by decide)⟩ (t := syX 60) (by decide) (rd_sum (rd_wrd 8 (by decide) (Or.inr (Or.inl rfl))) (by decide)) (rd_sum (rd_num 8 hn) (by decide))
  exact rd_ops (l := [(320, nI e, 0), (323, 0, 0)]) (m := [(316, 0, 0), (259, nI n, 0), (60, 0, 0), (306, 0, 0)]) p1 (rdo_cons (l := [(316, 0, 0), (259, nI n, 0), (60, 0, 0)]) (m := []) (r := 399) (t := kwX 6) (by decide) p2 (rdo_stop (hk_ne (by decide)) 399))
theorem rd_t4 {F S c e n : Nat} {ts : List Tok} (hc : c < 2 * F) (he : e < 2 * F) (hn : n < 100) : RD F S (testU (sinU 8)) (kwX 21 :: (clX c ++ kwX 22 :: (clX e ++ kwX 24 :: kwX 17 :: syX 62 :: nuX n :: syX 59 :: ts))) (syX 59 :: ts) [(321, nI c, nI e), (317, 0, 0), (259, nI n, 0), (62, 0, 0), (324, 0, 0)] := by
  refine rd_one' ?_ (hk_ne (by decide))
  have p1 : RD F S (sinU 8) (kwX 21 :: (clX c ++ kwX 22 :: (clX e ++ kwX 24 :: kwX 17 :: syX 62 :: nuX n :: syX 59 :: ts))) (kwX 24 :: kwX 17 :: syX 62 :: nuX n :: syX 59 :: ts) [(321, nI c, nI e)] := by
    rw [sin8]; exact rd_fol hc he
  have p2 : RD F S (sinU 8) (kwX 17 :: syX 62 :: nuX n :: syX 59 :: ts) (syX 59 :: ts) [(317, 0, 0), (259, nI n, 0), (62, 0, 0)] := by
    rw [sin8]
    exact rd_cmp (l := [(317, 0, 0)]) (m := [(259, nI n, 0)]) ⟨hk_ne (by decide), hk_ne (by decide), hk_ne (by decide), hk_ne (by decide), hk_ne (by decide)⟩ (t := syX 62) (by decide) (rd_sum (rd_wrd 8 (by decide) (Or.inr (Or.inr (Or.inl rfl)))) (by decide)) (rd_sum (rd_num 8 hn) (by decide))
  exact rd_ops (l := [(321, nI c, nI e)]) (m := [(317, 0, 0), (259, nI n, 0), (62, 0, 0), (324, 0, 0)]) p1 (rdo_cons (l := [(317, 0, 0), (259, nI n, 0), (62, 0, 0)]) (m := []) (r := 399) (t := kwX 24) (by decide) p2 (rdo_stop (hk_ne (by decide)) 399))
theorem rd_t5 {F S n : Nat} {ts : List Tok} (hn : n < 100) : RD F S (testU (sinU 8)) (syX 91 :: kwX 18 :: syX 256 :: nuX 4 :: syX 42 :: nuX n :: syX 93 :: syX 59 :: ts) (syX 59 :: ts) [(318, 0, 0), (259, 4, 0), (259, nI n, 0), (42, 0, 0), (256, 0, 0)] := by
  refine rd_one' (rd_one' ?_ (hk_ne (by decide))) (hk_ne (by decide))
  rw [sin8]
  refine rd_brk (t := syX 91) (u := syX 93) rfl rfl d8 ?_
  refine rd_one' (rd_one' ?_ (hk_ne (by decide))) (hk_ne (by decide))
  rw [sin7]
  have p2 : RD F S (sumU (valU 7)) (nuX 4 :: syX 42 :: nuX n :: syX 93 :: syX 59 :: ts) (syX 93 :: syX 59 :: ts) [(259, 4, 0), (259, nI n, 0), (42, 0, 0)] :=
    rd_one (rd_op2 (l := [(259, 4, 0)]) (m := [(259, nI n, 0), (42, 0, 0)]) (rd_num (n := 4) 7 (by decide)) (rdl_cons (l := [(259, nI n, 0)]) (m := []) (r := 399) (t := syX 42) (Or.inl rfl) (rd_num 7 hn) (rdl_stop (hk_ne (by decide)) (hk_ne (by decide)) 399))) (hk_ne (by decide)) (hk_ne (by decide))
  exact rd_cmp (l := [(318, 0, 0)]) (m := [(259, 4, 0), (259, nI n, 0), (42, 0, 0)]) ⟨hk_ne (by decide), hk_ne (by decide), hk_ne (by decide), hk_ne (by decide), hk_ne (by decide)⟩ (t := syX 256) (by decide) (rd_sum (rd_wrd 7 (by decide) (Or.inr (Or.inr (Or.inr rfl)))) (by decide)) p2
/-- the tests of a book's orders -/
theorem rd_test {b : Bok} (hW : BW b) {j : Nat} (hj : j < bM b) {ts : List Tok} (h0 : bo b j 2 ≠ 0) : ∃ us, tesL (bo b j 2) (bo b j 3) (bo b j 4) (bo b j 5) (bF b) ++ syX 59 :: ts = kwX 14 :: us ∧ RD (bF b) (bS b) (testU (sinU 8)) us (syX 59 :: ts) (cdT b j) := by
  obtain ⟨a0, a1, a2, a3, a4, a5⟩ := hW.2.2.2.2 j hj
  have hF := hW.1.1
  unfold cdT
  dsimp only
  rw [if_neg h0]
  have m1 := Nat.mod_lt (bo b j 3) (show 0 < 2 * bF b by omega)
  have m2 := Nat.mod_lt (bo b j 4) (show 0 < 2 * bF b by omega)
  have m3 := Nat.mod_lt (bo b j 3) (show 0 < 3 by omega)
  generalize bo b j 2 = k at *
  have hk6 : k = 1 ∨ k = 2 ∨ k = 3 ∨ k = 4 ∨ k = 5 := by omega
  rcases hk6 with rfl | rfl | rfl | rfl | rfl
  · rw [if_pos rfl]; exact ⟨_, rfl, rd_t1 (by omega)⟩
  · rw [if_neg (by decide), if_pos rfl]; exact ⟨_, rfl, rd_t2 m1⟩
  · rw [if_neg (by decide), if_neg (by decide), if_pos rfl]; exact ⟨_, rfl, rd_t3 a4 (by omega)⟩
  · rw [if_neg (by decide), if_neg (by decide), if_neg (by decide), if_pos rfl]
    refine ⟨_, ?_, rd_t4 m1 m2 (by omega)⟩
    rw [tesL]
    simp only [List.append_assoc, List.cons_append, List.nil_append]
  · rw [if_neg (by decide), if_neg (by decide), if_neg (by decide), if_neg (by decide)]; exact ⟨_, rfl, rd_t5 (by omega)⟩
