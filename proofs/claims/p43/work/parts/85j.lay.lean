
/-! A book while it is made: the builder somewhere, the book by hand at the end -/
def simC (n S M : Nat) : List Kd := .inl (9, [0, n + 1 + 3, n + 2 + 3, 0, 0]) :: .inl (103, rowsK (n + 3) S) :: .inl (103, rowsK (n + 3 + S) M) :: (List.replicate S (.inr (0, 4)) ++ List.replicate M (.inr (0, 6)))
def LB (lay : List Kd) (vo c S M : Nat) : List Kd := lay.set vo (.inr (2, c)) ++ simC lay.length S M
theorem simC_len (n S M : Nat) : (simC n S M).length = 3 + S + M := by simp [simC]; omega
section LBS
variable {lay : List Kd} {vo c S M : Nat}
theorem LB_len : (LB lay vo c S M).length = lay.length + (3 + S + M) := by rw [LB, List.length_append, List.length_set, simC_len]
theorem LB_old {i : Nat} (h : i < lay.length) (hv : i ≠ vo) : (LB lay vo c S M)[i]? = lay[i]? := by
  rw [LB, List.getElem?_append_left (by rw [List.length_set]; exact h), List.getElem?_set_ne (fun e => hv e.symm)]
theorem LB_at (d : Nat) : (LB lay vo c S M)[lay.length + d]? = (simC lay.length S M)[d]? := by
  rw [LB, List.getElem?_append_right (by rw [List.length_set]; omega), List.length_set, Nat.add_sub_cancel_left]
theorem LB_vo (h : vo < lay.length) : (LB lay vo c S M)[vo]? = some (.inr (2, c)) := by
  rw [LB, List.getElem?_append_left (by rw [List.length_set]; exact h), List.getElem?_set_self h]
theorem LB_row {k : Nat} (h : k < S) : (LB lay vo c S M)[lay.length + (3 + k)]? = some (.inr (0, 4)) := by
  rw [LB_at, show 3 + k = k + 1 + 1 + 1 by omega]
  show (List.replicate S (.inr (0, 4)) ++ List.replicate M (.inr (0, 6)) : List Kd)[k]? = _
  rw [List.getElem?_append_left (by rw [List.length_replicate]; exact h), List.getElem?_replicate, if_pos h]
theorem LB_ord {k : Nat} (h : k < M) : (LB lay vo c S M)[lay.length + (3 + S + k)]? = some (.inr (0, 6)) := by
  rw [LB_at, show 3 + S + k = (S + k) + 1 + 1 + 1 by omega]
  show (List.replicate S (.inr (0, 4)) ++ List.replicate M (.inr (0, 6)) : List Kd)[S + k]? = _
  rw [List.getElem?_append_right (by rw [List.length_replicate]; omega), List.length_replicate, Nat.add_sub_cancel_left, List.getElem?_replicate, if_pos h]
theorem LB_set {c' : Nat} (l : List Kd) (h : vo < lay.length) : (LB lay vo c S M ++ l).set vo (.inr (2, c')) = LB lay vo c' S M ++ l := by
  rw [LB, LB, List.append_assoc, List.set_append_left _ _ (by rw [List.length_set]; exact h), List.set_set, List.append_assoc]
theorem simC_mem {n d : Nat} {o : Nat × List Nat} (h : (simC n S M)[d]? = some (.inl o)) : (d = 0 ∧ o = (9, [0, n + 1 + 3, n + 2 + 3, 0, 0])) ∨ (d = 1 ∧ o = (103, rowsK (n + 3) S)) ∨ (d = 2 ∧ o = (103, rowsK (n + 3 + S) M)) := by
  match d, h with
  | 0, h => exact Or.inl ⟨rfl, (Sum.inl.inj (Option.some.inj h)).symm⟩
  | 1, h => exact Or.inr (Or.inl ⟨rfl, (Sum.inl.inj (Option.some.inj h)).symm⟩)
  | 2, h => exact Or.inr (Or.inr ⟨rfl, (Sum.inl.inj (Option.some.inj h)).symm⟩)
  | d + 3, h =>
    have hm : (.inl o : Kd) ∈ (List.replicate S (.inr (0, 4)) ++ List.replicate M (.inr (0, 6)) : List Kd) := List.mem_of_getElem? (i := d) h
    rcases List.mem_append.mp hm with h1 | h1
    · exact absurd (List.eq_of_mem_replicate h1) (by simp)
    · exact absurd (List.eq_of_mem_replicate h1) (by simp)
theorem LB_split {i : Nat} {o : Nat × List Nat} (h : (LB lay vo c S M)[i]? = some (.inl o)) : (i < lay.length ∧ i ≠ vo ∧ lay[i]? = some (.inl o)) ∨ (i = lay.length ∧ o = (9, [0, lay.length + 1 + 3, lay.length + 2 + 3, 0, 0])) ∨ (i = lay.length + 1 ∧ o = (103, rowsK (lay.length + 3) S)) ∨ (i = lay.length + 2 ∧ o = (103, rowsK (lay.length + 3 + S) M)) := by
  by_cases hi : i < lay.length
  · by_cases hv : i = vo
    · subst hv; rw [LB_vo hi] at h; cases h
    · rw [LB_old hi hv] at h; exact Or.inl ⟨hi, hv, h⟩
  · obtain ⟨d, rfl⟩ : ∃ d, i = lay.length + d := ⟨i - lay.length, by omega⟩
    rw [LB_at] at h
    rcases simC_mem h with ⟨rfl, e⟩ | ⟨rfl, e⟩ | ⟨rfl, e⟩
    · exact Or.inr (Or.inl ⟨rfl, e⟩)
    · exact Or.inr (Or.inr (Or.inl ⟨rfl, e⟩))
    · exact Or.inr (Or.inr (Or.inr ⟨rfl, e⟩))
theorem LB_cl (hC : Cl lay) : Cl (LB lay vo c S M) := by
  intro i o hi t ht h3
  rw [LB_len]
  rcases LB_split hi with ⟨h1, h2, h⟩ | ⟨-, rfl⟩ | ⟨-, rfl⟩ | ⟨-, rfl⟩
  · have := hC i o h t ht h3; omega
  · simp at ht; omega
  · obtain ⟨k, hk, rfl⟩ := rowsK_mem ht; omega
  · obtain ⟨k, hk, rfl⟩ := rowsK_mem ht; omega
theorem LB_own {qo : Nat} (hO : Own lay qo vo) (hv : vo < lay.length) : Own (LB lay vo c S M) qo vo := by
  intro i o hi hne hm
  rcases LB_split hi with ⟨h1, h2, h⟩ | ⟨-, rfl⟩ | ⟨-, rfl⟩ | ⟨-, rfl⟩
  · exact hO i o h hne hm
  · simp at hm; omega
  · obtain ⟨k, hk, e⟩ := rowsK_mem hm; omega
  · obtain ⟨k, hk, e⟩ := rowsK_mem hm; omega
theorem LB_ownN {d : Nat} (hC : Cl lay) (hd : d = 1 ∨ d = 2) : Own (LB lay vo c S M) lay.length (lay.length + d) := by
  intro i o hi hne hm
  rcases LB_split hi with ⟨h1, h2, h⟩ | ⟨h, -⟩ | ⟨-, rfl⟩ | ⟨-, rfl⟩
  · have := hC i o h _ hm (by omega); omega
  · exact hne h
  · obtain ⟨k, hk, e⟩ := rowsK_mem hm; omega
  · obtain ⟨k, hk, e⟩ := rowsK_mem hm; omega
theorem Own.appR {l : List Kd} {q v : Nat} {z : Nat × Nat} (h : Own l q v) : Own (l ++ [.inr z]) q v := by
  intro i o hi hne hm
  by_cases hl : i < l.length
  · rw [List.getElem?_append_left hl] at hi; exact h i o hi hne hm
  · rw [List.getElem?_append_right (by omega)] at hi
    match i - l.length, hi with
    | 0, hi => cases hi
theorem Own.appS {l : List Kd} {q v n : Nat} (h : Own l q v) (hv : v < l.length) : Own (l ++ [.inl (10, [l.length + 4, 0, 0, 0]), .inr (2, n)]) q v := by
  intro i o hi hne hm
  by_cases hl : i < l.length
  · rw [List.getElem?_append_left hl] at hi; exact h i o hi hne hm
  · rw [List.getElem?_append_right (by omega)] at hi
    match i - l.length, hi with
    | 0, hi =>
      have e : o = (10, [l.length + 4, 0, 0, 0]) := (Sum.inl.inj (Option.some.inj hi)).symm
      rw [e] at hm
      simp at hm
      omega
    | 1, hi => cases hi
theorem cl_str2 {l : List Kd} {n : Nat} (hC : Cl l) : Cl (l ++ [.inl (10, [l.length + 4, 0, 0, 0]), .inr (2, n)]) := by
  rw [show l ++ [(.inl (10, [l.length + 4, 0, 0, 0]) : Kd), .inr (2, n)] = (l ++ [.inl (10, [l.length + 4, 0, 0, 0])]) ++ [.inr (2, n)] by simp]
  exact cl_str hC
theorem rowsK_succ (q n : Nat) : rowsK q (n + 1) = rowsK q n ++ [q + n + 3] := by
  rw [rowsK, rowsK, List.range_succ, List.map_append]; rfl
theorem LB_stepS : (LB lay vo c S 0 ++ [(.inr (0, 4) : Kd)]).set (lay.length + 1) (.inl (103, rowsK (lay.length + 3) S ++ [lay.length + 3 + S + 3])) = LB lay vo c (S + 1) 0 := by
  rw [LB, LB, List.append_assoc, List.set_append_right _ _ (by rw [List.length_set]; omega), List.length_set, Nat.add_sub_cancel_left, ← rowsK_succ]
  simp [simC, List.replicate_succ']
  rfl
theorem LB_stepO : (LB lay vo c S M ++ [(.inr (0, 6) : Kd)]).set (lay.length + 2) (.inl (103, rowsK (lay.length + 3 + S) M ++ [lay.length + 3 + S + M + 3])) = LB lay vo c S (M + 1) := by
  rw [LB, LB, List.append_assoc, List.set_append_right _ _ (by rw [List.length_set]; omega), List.length_set, Nat.add_sub_cancel_left, ← rowsK_succ]
  simp [simC, List.replicate_succ']
theorem LB_sim {b : Bok} : SimL (LB lay vo c (bS b) (bM b)) lay.length b := by
  refine ⟨LB_at 0, LB_at 1, LB_at 2, fun k hk => ?_, fun k hk => ?_⟩
  · rw [Nat.add_assoc]; exact LB_row hk
  · rw [Nat.add_assoc, Nat.add_assoc, ← Nat.add_assoc 3]; exact LB_ord hk
end LBS
def SimV (x : XS) (n F : Nat) (b : Bok) (S M : Nat) : Prop := (x.1 n 0 = nI F ∧ x.1 n 3 = nI 0 ∧ x.1 n 4 = nI 0) ∧ (∀ k, k < S → x.1 (n + (3 + k)) 0 = nI (bk b k) ∧ x.1 (n + (3 + k)) 1 = nI (b1 b k) ∧ x.1 (n + (3 + k)) 2 = nI (b2 b k) ∧ x.1 (n + (3 + k)) 3 = 1) ∧ ∀ k, k < M → ∀ j, j < 6 → x.1 (n + (3 + S + k)) j = nI (bo b k j)
theorem SimV.of {x y : XS} {n F : Nat} {b : Bok} {S M : Nat} (h : SimV x n F b S M) (e : ∀ i j, n ≤ i → i ≠ n + 1 → i ≠ n + 2 → i < n + (3 + S + M) → y.1 i j = x.1 i j) : SimV y n F b S M := by
  obtain ⟨⟨h0, h3, h4⟩, hs, ho⟩ := h
  exact ⟨⟨by rw [e _ _ (by omega) (by omega) (by omega) (by omega)]; exact h0, by rw [e _ _ (by omega) (by omega) (by omega) (by omega)]; exact h3, by rw [e _ _ (by omega) (by omega) (by omega) (by omega)]; exact h4⟩, fun k hk => by rw [e _ _ (by omega) (by omega) (by omega) (by omega), e _ _ (by omega) (by omega) (by omega) (by omega), e _ _ (by omega) (by omega) (by omega) (by omega), e _ _ (by omega) (by omega) (by omega) (by omega)]; exact hs k hk, fun k hk j hj => by rw [e _ _ (by omega) (by omega) (by omega) (by omega)]; exact ho k hk j hj⟩
theorem SimV.full {x : XS} {n : Nat} {b : Bok} (h : SimV x n (bF b) b (bS b) (bM b)) : SimX x n b (2 ^ bS b - 1) 0 0 := by
  refine ⟨h.1, fun k hk => ?_, fun k hk j hj => ?_⟩
  · rw [Nat.add_assoc, Nat.testBit_two_pow_sub_one, decide_eq_true hk]; exact h.2.1 k hk
  · rw [Nat.add_assoc, Nat.add_assoc, ← Nat.add_assoc 3]; exact h.2.2 k hk j hj
/-- how far a book is made: its text bs, its families F, S statements and M orders; l lies behind -/
def Bst (lay : List Kd) (a : Nat → Nat) (x : XS) (qo vo : Nat) (bs : List Int32) (F : Nat) (b : Bok) (S M : Nat) (l : List Kd) (c : Nat) (a1 : Nat → Nat) (x1 : XS) : Prop :=
  (∀ j, j < lay.length → j ≠ vo → a1 j = a j) ∧ (∀ i, i < lay.length → i ≠ vo → i ≠ qo → ∀ j, x1.1 i j = x.1 i j ∧ x1.2 i j = x.2 i j) ∧ SB (LB lay vo c S M ++ l) x1 qo vo c bs ∧ SimV x1 lay.length F b S M
def Okb (lay : List Kd) (qo vo S M : Nat) (l : List Kd) : Prop := ∀ c, Cl (LB lay vo c S M ++ l) ∧ Own (LB lay vo c S M ++ l) qo vo
section WBK
variable {k : Kx} {cc : ByteArray} {nL rk mc ms pc cells slots : Nat} {nm : String} {ret : Option FieldType} {lay l : List Kd} {a a1 : Nat → Nat} {x x1 : XS} {L : List (Nat × Value)} {stk : List Value} {qo vo F S M c : Nat} {b : Bok} {bs ts : List Int32}
theorem Bst.next {c2 : Nat} {a2 : Nat → Nat} {x2 : XS} (hvl : vo < lay.length) (hql : qo < lay.length) (h : Bst lay a x qo vo bs F b S M l c a1 x1) (hK : KeepQ (LB lay vo c S M ++ l) qo vo a1 a2 x1 x2) (hB : SB (LB lay vo c2 S M ++ l) x2 qo vo c2 ts) : Bst lay a x qo vo ts F b S M l c2 a2 x2 := by
  have hl : (LB lay vo c S M ++ l).length = lay.length + (3 + S + M) + l.length := by rw [List.length_append, LB_len]
  refine ⟨fun j hj hjv => (hK.1 j (by omega) hjv).trans (h.1 j hj hjv), fun i hi hiv hiq j => ?_, hB, h.2.2.2.of (fun i j h1 h2 h3 h4 => (hK.2 i (by omega) (by omega) (by omega) j).1)⟩
  have h1 := hK.2 i (by omega) hiv hiq j
  have h2 := h.2.1 i hi hiv hiq j
  exact ⟨h1.1.trans h2.1, h1.2.trans h2.2⟩
theorem xappB (hk : Fok k cc nL RL ret nm rk mc ms) {r : Nat} (d : decode cc pc = .ok (.invokevirtual 37, 3)) (hO : Okb lay qo vo S M l) (hvl : vo < lay.length) (hql : qo < lay.length) (hB : Bst lay a x qo vo bs F b S M l c a1 x1) (hS : StrR (sa k) (LB lay vo c S M ++ l) a1 x1 r ts) (hA : Asc ts) (hT : bs.length + ts.length ≤ 1000) (hrk : 7 < rk) (hc : cells + 1 ≤ mc ∧ slots + 2000 ≤ ms) (hst : (stk.map fun v => v.category).sum ≤ 8)
    (kk : ∀ (c2 : Nat) (a2 : Nat → Nat) (x2 : XS), Bst lay a x qo vo (bs ++ ts) F b S M l c2 a2 x2 → KeepQ (LB lay vo c S M ++ l) qo vo a1 a2 x1 x2 → Wx k (cells + 1) (slots + 2000) (LB lay vo c2 S M ++ l) a2 x2 (pc + 3) L (.ref (a2 qo) :: stk)) : Wx k cells slots (LB lay vo c S M ++ l) a1 x1 pc L (.ref r :: .ref (a1 qo) :: stk) := by
  refine xcallVZ hk (c_J4_append_15ec4 (hO c).1 (hO c).2 hB.2.2.1 hS hA hT (by decide)) bJ4_append_15ec4 kL_37 d rfl ⟨_, _, _, _, hB.2.2.1.1, rfl⟩ rfl hrk hc hst ?_
  rintro _ _ a2 x2 ⟨rfl, c2, rfl, hK, hB1⟩
  rw [LB_set l hvl] at hB1 ⊢
  exact kk c2 a2 x2 (hB.next hvl hql hK hB1) hK
theorem xappBI (hk : Fok k cc nL RL ret nm rk mc ms) {n : Nat} (d : decode cc pc = .ok (.invokevirtual 41, 3)) (hO : Okb lay qo vo S M l) (hvl : vo < lay.length) (hql : qo < lay.length) (hB : Bst lay a x qo vo bs F b S M l c a1 x1) (hn : n < 100) (hT : bs.length + 2 ≤ 1000) (hrk : 7 < rk) (hc : cells + 1 ≤ mc ∧ slots + 2000 ≤ ms) (hst : (stk.map fun v => v.category).sum ≤ 8)
    (kk : ∀ (c2 : Nat) (a2 : Nat → Nat) (x2 : XS), Bst lay a x qo vo (bs ++ numB n) F b S M l c2 a2 x2 → KeepQ (LB lay vo c S M ++ l) qo vo a1 a2 x1 x2 → Wx k (cells + 1) (slots + 2000) (LB lay vo c2 S M ++ l) a2 x2 (pc + 3) L (.ref (a2 qo) :: stk)) : Wx k cells slots (LB lay vo c S M ++ l) a1 x1 pc L (.int (nI n) :: .ref (a1 qo) :: stk) := by
  refine xcallVZ hk (c_J4_append_bf812 (hO c).1 (hO c).2 hB.2.2.1 hn (T := 1000) (by have := numB_le n; omega) (by decide)) bJ4_append_bf812 kL_41 d rfl ⟨_, _, _, _, hB.2.2.1.1, rfl⟩ rfl hrk hc hst ?_
  rintro _ _ a2 x2 ⟨rfl, c2, rfl, hK, hB1⟩
  rw [LB_set l hvl] at hB1 ⊢
  exact kk c2 a2 x2 (hB.next hvl hql hK hB1) hK
theorem xappBL (hk : Fok k cc nL RL ret nm rk mc ms) {i idx : Nat} (d0 : decode cc pc = .ok (.ldc idx, 2)) (d : decode cc (pc + 2) = .ok (.invokevirtual 37, 3)) (hi : i < 30) (hti : (txt i).1 = RL ∧ (txt i).2.1 = idx) (hO : Okb lay qo vo S M l) (hvl : vo < lay.length) (hql : qo < lay.length) (hB : Bst lay a x qo vo bs F b S M l c a1 x1) (hT : bs.length + (txB i).length ≤ 1000) (hrk : 7 < rk) (hc : cells + 1 ≤ mc ∧ slots + 2000 ≤ ms) (hst : (stk.map fun v => v.category).sum ≤ 8)
    (kk : ∀ (c2 : Nat) (a2 : Nat → Nat) (x2 : XS), Bst lay a x qo vo (bs ++ txB i) F b S M l c2 a2 x2 → KeepQ (LB lay vo c S M ++ l) qo vo a1 a2 x1 x2 → Wx k (cells + 1) (slots + 2000) (LB lay vo c2 S M ++ l) a2 x2 (pc + 5) L (.ref (a2 qo) :: stk)) : Wx k cells slots (LB lay vo c S M ++ l) a1 x1 pc L (.ref (a1 qo) :: stk) := by
  refine xldcT (i := i) hk d0 hti (by omega) ?_
  exact xappB hk d hO hvl hql hB (Or.inl ⟨i, hi, rfl, rfl⟩) (asc_tx hi) hT hrk hc hst kk
end WBK
