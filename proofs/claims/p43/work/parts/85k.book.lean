
/-! The book that cells choose, and its text -/
def bkX (N : Nat) (s : Nat → Int32) (k : Nat) : Int32 := cellV N s (2 + k) >>> ((1 : Int32) &&& 31) + 37 * nI k
def bkY (N : Nat) (s : Nat → Int32) (k : Nat) : Int32 := cellV N s 15 >>> (nI k &&& 31) + 61 * nI k
def bookN (N : Nat) (s : Nat → Int32) : Bok :=
  let F := 1 + belowN (cellV N s 0) 5
  let S := belowN (cellV N s 1) (2 * F + 3)
  let kd := fun k => if belowN (bkX N s k) 9 = 0 then 3 else belowN (bkX N s k >>> ((2 : Int32) &&& 31)) 3
  let fi := fun k => belowN (bkX N s k >>> ((3 : Int32) &&& 31)) (2 * F)
  let M := if S = 0 then 0 else belowN (cellV N s 14) 6
  (F, S, kd, fi, fun k => if kd k = 3 then fi k else belowN (bkX N s k >>> ((6 : Int32) &&& 31)) (2 * F), M,
    fun j i => match i with
      | 0 => 1 + belowN (bkY N s (M - j)) 2
      | 1 => belowN (bkY N s (M - j) >>> ((2 : Int32) &&& 31)) S
      | 2 => belowN (bkY N s (M - j) >>> ((4 : Int32) &&& 31)) 6
      | 3 => belowN (bkY N s (M - j) >>> ((3 : Int32) &&& 31)) 21
      | 4 => belowN (bkY N s (M - j) >>> ((5 : Int32) &&& 31)) S
      | _ => belowN (bkY N s (M - j) >>> ((6 : Int32) &&& 31)) 8)
theorem bookN_ok (N : Nat) (s : Nat → Int32) : BW (bookN N s) := by
  have hF : bF (bookN N s) = 1 + belowN (cellV N s 0) 5 := rfl
  have hF5 := belowN_lt (v := cellV N s 0) (n := 5) (by decide)
  have hS : bS (bookN N s) = belowN (cellV N s 1) (2 * bF (bookN N s) + 3) := rfl
  have hS5 := belowN_lt (v := cellV N s 1) (n := 2 * bF (bookN N s) + 3) (by omega)
  refine ⟨by omega, by omega, fun k hk => ⟨?_, belowN_lt (by omega), ?_, ?_⟩, ?_, fun j hj => ?_⟩
  · show (if belowN (bkX N s k) 9 = 0 then 3 else belowN (bkX N s k >>> ((2 : Int32) &&& 31)) 3) < 4
    split
    · omega
    · have := belowN_lt (v := bkX N s k >>> ((2 : Int32) &&& 31)) (n := 3) (by decide); omega
  · show (if bk (bookN N s) k = 3 then b1 (bookN N s) k else belowN (bkX N s k >>> ((6 : Int32) &&& 31)) (2 * bF (bookN N s))) < _
    split
    · exact belowN_lt (by omega)
    · exact belowN_lt (by omega)
  · intro h3
    exact if_pos h3
  · show (if bS (bookN N s) = 0 then 0 else belowN (cellV N s 14) 6) ≤ 5
    split
    · omega
    · have := belowN_lt (v := cellV N s 14) (n := 6) (by decide); omega
  · have hM : bM (bookN N s) = if bS (bookN N s) = 0 then 0 else belowN (cellV N s 14) 6 := rfl
    have hS0 : 0 < bS (bookN N s) := by
      by_cases h : bS (bookN N s) = 0
      · rw [if_pos h] at hM; omega
      · omega
    refine ⟨?_, belowN_lt hS0, belowN_lt (by decide), belowN_lt (by decide), belowN_lt hS0, belowN_lt (by decide)⟩
    have := belowN_lt (v := bkY N s (bM (bookN N s) - j)) (n := 2) (by decide)
    show 1 + belowN (bkY N s (bM (bookN N s) - j)) 2 = 1 ∨ 1 + belowN (bkY N s (bM (bookN N s) - j)) 2 = 2
    omega
def famT : Nat → List Int32
  | 0 => []
  | f + 1 => famT f ++ txB 24 ++ numB f ++ txB 25
def stmT (b : Bok) : Nat → List Int32
  | 0 => []
  | k + 1 => stmT b k ++ toldB (bk b k) (b1 b k) (b2 b k) k ++ txB 26
def ordT (b : Bok) : Nat → List Int32
  | 0 => []
  | j + 1 => ordT b j ++ (if bo b j 0 = 1 then txB 27 else txB 28) ++ numB (bo b j 1) ++ testB (bo b j 2) (bo b j 3) (bo b j 4) (bo b j 5) (bF b) ++ txB 26
def bookT (b : Bok) : List Int32 := famT (bF b) ++ stmT b (bS b) ++ ordT b (bM b)
theorem famT_le : ∀ f, (famT f).length ≤ 11 * f
  | 0 => Nat.le_refl _
  | f + 1 => by
    have h1 := famT_le f
    have h2 := numB_le f
    simp only [famT, List.length_append, txl_24, txl_25]; omega
theorem toldB_le (k c d n : Nat) : (toldB k c d n).length ≤ 40 := by
  have h1 := numB_le n
  have h2 := claimB_le c
  have h3 := claimB_le d
  unfold toldB
  split
  · simp only [List.length_append, txl_3, txl_4, txl_5, txl_6, txl_7]; omega
  · split
    · simp only [List.length_append, txl_3, txl_4, txl_8, txl_9, txl_10]; omega
    · split
      · simp only [List.length_append, txl_3, txl_4, txl_11, txl_12]; omega
      · simp only [List.length_append, txl_3, txl_4, txl_13]; omega
theorem toldB_asc {k c d n : Nat} (hc : c < 200) (hd : d < 200) (hn : n < 100) : Asc (toldB k c d n) := by
  have h1 := numB_asc hn
  have h2 := claimB_asc hc
  have h3 := claimB_asc hd
  have hx := fun i (h : i < 30) => asc_tx h
  unfold toldB
  split
  · exact (((((hx 5 (by decide)).app (((hx 3 (by decide)).app h1).app (hx 4 (by decide)))).app (hx 6 (by decide))).app h2).app (hx 7 (by decide))).app h3
  · split
    · exact (((((hx 8 (by decide)).app (((hx 3 (by decide)).app h1).app (hx 4 (by decide)))).app (hx 9 (by decide))).app h2).app (hx 10 (by decide))).app h3
    · split
      · exact ((((hx 11 (by decide)).app (((hx 3 (by decide)).app h1).app (hx 4 (by decide)))).app h2).app (hx 12 (by decide))).app h3
      · exact ((hx 13 (by decide)).app (((hx 3 (by decide)).app h1).app (hx 4 (by decide)))).app h2
theorem stmT_le (b : Bok) : ∀ k, (stmT b k).length ≤ 42 * k
  | 0 => Nat.le_refl _
  | k + 1 => by
    have h1 := stmT_le b k
    have h2 := toldB_le (bk b k) (b1 b k) (b2 b k) k
    simp only [stmT, List.length_append, txl_26]; omega
theorem testB_le : ∀ k d e f N, (testB k d e f N).length ≤ 51
  | 0, _, _, _, _ => by rw [testB, txl_14]; omega
  | 1, d, _, _, _ => by have := numB_le (d % 3); simp only [testB, List.length_append, txl_15]; omega
  | 2, d, _, _, N => by have := claimB_le (d % (2 * N)); simp only [testB, List.length_append, txl_16]; omega
  | 3, d, e, _, _ => by have := numB_le d; have := numB_le e; simp only [testB, List.length_append, txl_17, txl_18]; omega
  | 4, d, e, f, N => by have := claimB_le (d % (2 * N)); have := claimB_le (e % (2 * N)); have := numB_le f; simp only [testB, List.length_append, txl_19, txl_20, txl_21]; omega
  | k + 5, d, _, _, _ => by have := numB_le d; simp only [testB, List.length_append, txl_22, txl_23]; omega
theorem testB_asc : ∀ k d e f N, d < 100 → e < 100 → f < 100 → 1 ≤ N → N < 20 → Asc (testB k d e f N)
  | 0, _, _, _, _, _, _, _, _, _ => asc_tx (by decide)
  | 1, d, _, _, _, _, _, _, _, _ => (asc_tx (by decide)).app (numB_asc (by omega))
  | 2, d, _, _, N, _, _, _, _, _ => (asc_tx (by decide)).app (claimB_asc (by have := Nat.mod_lt d (show 0 < 2 * N by omega); omega))
  | 3, d, e, _, _, _, _, _, _, _ => (((asc_tx (by decide)).app (numB_asc (by omega))).app (asc_tx (by decide))).app (numB_asc (by omega))
  | 4, d, e, f, N, _, _, _, _, _ => (((((asc_tx (by decide)).app (claimB_asc (by have := Nat.mod_lt d (show 0 < 2 * N by omega); omega))).app (asc_tx (by decide))).app (claimB_asc (by have := Nat.mod_lt e (show 0 < 2 * N by omega); omega))).app (asc_tx (by decide))).app (numB_asc (by omega))
  | k + 5, d, _, _, _, _, _, _, _, _ => ((asc_tx (by decide)).app (numB_asc (by omega))).app (asc_tx (by decide))
theorem ordT_le (b : Bok) : ∀ k, (ordT b k).length ≤ 62 * k
  | 0 => Nat.le_refl _
  | k + 1 => by
    have h1 := ordT_le b k
    have h2 := testB_le (bo b k 2) (bo b k 3) (bo b k 4) (bo b k 5) (bF b)
    have h3 := numB_le (bo b k 1)
    have h4 : (if bo b k 0 = 1 then txB 27 else txB 28).length = 7 := by split <;> simp only [txl_27, txl_28]
    simp only [ordT, List.length_append, txl_26, h4]; omega
section BS
variable {lay l : List Kd} {a a1 a2 : Nat → Nat} {x x1 x2 : XS} {qo vo F S M c : Nat} {b : Bok} {bs : List Int32}
theorem SB.pos {lay2 lay1 : List Kd} {x : XS} {q v cap : Nat} {bs : List Int32} (h : SB lay1 x q v cap bs) (e1 : lay2[q]? = lay1[q]?) (e2 : lay2[v]? = lay1[v]?) : SB lay2 x q v cap bs := ⟨e1.trans h.1, e2.trans h.2.1, h.2.2⟩
theorem SB.wor {lay1 : List Kd} {x x2 : XS} {q v cap : Nat} {bs : List Int32} (h : SB lay1 x q v cap bs) (e1 : ∀ j, x2.1 q j = x.1 q j) (e2 : ∀ j, x2.1 v j = x.1 v j) : SB lay1 x2 q v cap bs := ⟨h.1, h.2.1, (e1 1).trans h.2.2.1, (e1 3).trans h.2.2.2.1, h.2.2.2.2.1, h.2.2.2.2.2.1, fun j hj => by rw [e2]; exact h.2.2.2.2.2.2.1 j hj, fun j hj => by rw [e2]; exact h.2.2.2.2.2.2.2 j hj⟩
theorem LBl_at {i : Nat} (hi : i < lay.length) : (LB lay vo c S M ++ l)[i]? = (lay.set vo (.inr (2, c)))[i]? := by
  rw [LB, List.append_assoc, List.getElem?_append_left (by rw [List.length_set]; exact hi)]
theorem Bst.lb {l2 : List Kd} (hvl : vo < lay.length) (hql : qo < lay.length) (h : Bst lay a x qo vo bs F b S M l c a1 x1) : Bst lay a x qo vo bs F b S M l2 c a1 x1 :=
  ⟨h.1, h.2.1, h.2.2.1.pos (by rw [LBl_at hql, LBl_at hql]) (by rw [LBl_at hvl, LBl_at hvl]), h.2.2.2⟩
theorem Bst.keep (hvl : vo < lay.length) (hql : qo < lay.length) (h : Bst lay a x qo vo bs F b S M l c a1 x1) (hK1 : ∀ j, j < lay.length + (3 + S + M) → a2 j = a1 j) (hK2 : ∀ i, i < lay.length + (3 + S + M) → ∀ j, x2.1 i j = x1.1 i j ∧ x2.2 i j = x1.2 i j) : Bst lay a x qo vo bs F b S M l c a2 x2 := by
  refine ⟨fun j hj hjv => (hK1 j (by omega)).trans (h.1 j hj hjv), fun i hi hiv hiq j => ?_, h.2.2.1.wor (fun j => (hK2 qo (by omega) j).1) (fun j => (hK2 vo (by omega) j).1), h.2.2.2.of (fun i j _ _ _ h4 => (hK2 i h4 j).1)⟩
  have h1 := hK2 i (by omega) j
  have h2 := h.2.1 i hi hiv hiq j
  exact ⟨h1.1.trans h2.1, h1.2.trans h2.2⟩
theorem grA_o {m v j : Nat} {f : Nat → Nat} (h : j ≠ v) : grA m v f j = f j := by simp [grA, h]
theorem Bst.stepS {m : Nat} (hvl : vo < lay.length) (hql : qo < lay.length) (h : Bst lay a x qo vo bs F b S 0 l c a1 x1) (ho : x1.1 (lay.length + (3 + S)) 0 = nI (bk b S) ∧ x1.1 (lay.length + (3 + S)) 1 = nI (b1 b S) ∧ x1.1 (lay.length + (3 + S)) 2 = nI (b2 b S) ∧ x1.1 (lay.length + (3 + S)) 3 = 1) : Bst lay a x qo vo bs F b (S + 1) 0 [] c (grA m (lay.length + 1) a1) (grX m (lay.length + 1) x1) := by
  have e : ∀ i, i ≠ lay.length + 1 → ∀ j, (grX m (lay.length + 1) x1).1 i j = x1.1 i j := fun i hi j => by simp [grX, hi]
  have e2 : ∀ i, i ≠ lay.length + 1 → ∀ j, (grX m (lay.length + 1) x1).2 i j = x1.2 i j := fun i hi j => by simp [grX, hi]
  refine ⟨fun j hj hjv => ?_, fun i hi hiv hiq j => ?_, ?_, ⟨?_, ?_, ?_⟩, fun k hk => ?_, fun k hk => absurd hk (Nat.not_lt_zero _)⟩
  · rw [grA_o (by omega)]; exact h.1 j hj hjv
  · rw [e i (by omega), e2 i (by omega)]; exact h.2.1 i hi hiv hiq j
  · exact (h.2.2.1.pos (by rw [LBl_at hql, LBl_at hql]) (by rw [LBl_at hvl, LBl_at hvl])).wor (fun j => e _ (by omega) j) (fun j => e _ (by omega) j)
  · rw [e _ (by omega)]; exact h.2.2.2.1.1
  · rw [e _ (by omega)]; exact h.2.2.2.1.2.1
  · rw [e _ (by omega)]; exact h.2.2.2.1.2.2
  · rw [e _ (by omega), e _ (by omega), e _ (by omega), e _ (by omega)]
    by_cases hkS : k < S
    · exact h.2.2.2.2.1 k hkS
    · rw [show k = S by omega]; exact ho
theorem Bst.stepO {m : Nat} (hvl : vo < lay.length) (hql : qo < lay.length) (h : Bst lay a x qo vo bs F b S M l c a1 x1) (ho : ∀ j, j < 6 → x1.1 (lay.length + (3 + S + M)) j = nI (bo b M j)) : Bst lay a x qo vo bs F b S (M + 1) [] c (grA m (lay.length + 2) a1) (grX m (lay.length + 2) x1) := by
  have e : ∀ i, i ≠ lay.length + 2 → ∀ j, (grX m (lay.length + 2) x1).1 i j = x1.1 i j := fun i hi j => by simp [grX, hi]
  have e2 : ∀ i, i ≠ lay.length + 2 → ∀ j, (grX m (lay.length + 2) x1).2 i j = x1.2 i j := fun i hi j => by simp [grX, hi]
  refine ⟨fun j hj hjv => ?_, fun i hi hiv hiq j => ?_, ?_, ⟨?_, ?_, ?_⟩, fun k hk => ?_, fun k hk j hj => ?_⟩
  · rw [grA_o (by omega)]; exact h.1 j hj hjv
  · rw [e i (by omega), e2 i (by omega)]; exact h.2.1 i hi hiv hiq j
  · exact (h.2.2.1.pos (by rw [LBl_at hql, LBl_at hql]) (by rw [LBl_at hvl, LBl_at hvl])).wor (fun j => e _ (by omega) j) (fun j => e _ (by omega) j)
  · rw [e _ (by omega)]; exact h.2.2.2.1.1
  · rw [e _ (by omega)]; exact h.2.2.2.1.2.1
  · rw [e _ (by omega)]; exact h.2.2.2.1.2.2
  · rw [e _ (by omega), e _ (by omega), e _ (by omega), e _ (by omega)]; exact h.2.2.2.2.1 k hk
  · rw [e _ (by omega)]
    by_cases hkS : k < M
    · exact h.2.2.2.2.2 k hkS j hj
    · rw [show k = M by omega]; exact ho j hj
end BS
def BkE (lay : List Kd) (a : Nat → Nat) (x : XS) (qo vo : Nat) (b : Bok) : Option Value → List Kd → (Nat → Nat) → XS → Prop := fun r lay' a' x' =>
  r = some (.ref (a' lay.length)) ∧ ∃ c, lay' = LB lay vo c (bS b) (bM b) ∧ Bst lay a x qo vo (bookT b) (bF b) b (bS b) (bM b) [] c a' x'
