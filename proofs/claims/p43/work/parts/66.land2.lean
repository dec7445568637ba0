def PeaB (x : XS) (F S : Nat) (l r : Nat → Nat) : Prop := x.1 40 4 = nI (usedN F) ∧ ∀ k, k < S → ∀ w, w < usedN F → x.2 43 (k * 16 + w) = (holdsL (nI (l k)) (nI w) ||| holdsL (nI (r k)) (nI w))
def Pw (F : Nat) (P : Nat → Bool) : Nat → Bool := fun p => decide (p < 2 ^ F) && P p
def LandC (x : XS) (F S : Nat) (l r : Nat → Nat) (s : Int32) : Prop := (∀ w, w < usedN F → ∀ b, b < 64 → bitL (x.2 41 w) b = Pw F (PA l r s S) (64 * w + b)) ∧ x.1 40 5 = nI (fb_ct (PA l r s S) (2 ^ F))
theorem ct_words {F : Nat} (hF : F < 11) (P : Nat → Bool) : fb_ct (Pw F P) (64 * usedN F) = fb_ct P (2 ^ F) := by
  obtain ⟨-, -, h, -⟩ := used_c F hF
  rw [show 64 * usedN F = 2 ^ F + (64 * usedN F - 2 ^ F) by omega, fb_ct_split]
  have h1 : fb_ct (fun k => Pw F P (2 ^ F + k)) (64 * usedN F - 2 ^ F) = 0 := fb_ct_zero.mpr (fun k _ => by unfold Pw; rw [decide_eq_false (by omega), Bool.false_and])
  rw [h1, Nat.add_zero]
  exact fb_ct_cong (fun k hk => by unfold Pw; rw [decide_eq_true hk, Bool.true_and])
theorem rdL_ne {x : XS} {q k q' k' : Nat} {v : Int64} (h : q' ≠ q) : (setL x q k v).2 q' k' = x.2 q' k' := if_neg (fun z => h z.1)
theorem rdL_nk {x : XS} {q k q' k' : Nat} {v : Int64} (h : k' ≠ k) : (setL x q k v).2 q' k' = x.2 q' k' := if_neg (fun z => h z.2)
theorem rdL_eq {x : XS} {q k : Nat} {v : Int64} : (setL x q k v).2 q k = v := if_pos ⟨rfl, rfl⟩
theorem row_at {x : XS} {k w : Nat} (hk : k < 20) (hw : w < 16) : rowL x (nI k) (nI w) = x.2 43 (k * 16 + w) := by
  unfold rowL
  rw [show (16 : Int32) = nI 16 from rfl, pk_mul, nI_addN]
  have h : ∀ m, m < 320 → (¬ nI m < 0) ∧ (¬ nI 320 ≤ nI m) := by decide +kernel
  obtain ⟨h1, h2⟩ := h (k * 16 + w) (by omega)
  rw [if_neg h1, if_neg h2, nI_clamp (by omega)]
theorem row_bit {x : XS} {F S : Nat} {l r : Nat → Nat} (hB : BkX x F S l r) (hP : PeaB x F S l r) {k w b : Nat} (hk : k < S) (hw : w < usedN F) (hb : b < 64) : bitL (rowL x (nI k) (nI w)) b = (holdsP (64 * w + b) (l k) || holdsP (64 * w + b) (r k)) := by
  obtain ⟨hF, hS, -, -, hlt, -⟩ := hB
  obtain ⟨u1, -, -, -⟩ := used_c F (by omega)
  have := hlt k hk
  rw [row_at (by omega) (by omega), hP.2 k hk w hw, bitL_or, holds_bit _ (by omega) w (by omega) b hb, holds_bit _ (by omega) w (by omega) b hb]
theorem allOf_eq {x : XS} {F : Nat} (h : x.1 21 0 = nI F) (w : Nat) : allOfL x (nI w) = allF F w := by unfold allOfL allF; rw [h]
theorem rest_bit {x : XS} {F S : Nat} {l r : Nat → Nat} (s : Int32) (hB : BkX x F S l r) (hP : PeaB x F S l r) {w b : Nat} (hw : w < usedN F) (hb : b < 64) : bitL (itP (restF x s (nI w)) S (allOfL x (nI w))) b = Pw F (PA l r s S) (64 * w + b) := by
  have hF := hB.1
  have hS := hB.2.1
  refine itP_rel (P := fun k v => bitL v b = Pw F (PA l r s k) (64 * w + b)) ?_ (fun k hk v hv => ?_)
  · rw [allOf_eq hB.2.2.1, all_bit F (by omega) w hw b hb]
    show _ = (decide _ && true)
    rw [Bool.and_true]
  · unfold restF
    rw [hasB_bit (show k < 32 by omega)]
    unfold Pw at hv ⊢
    show _ = (decide _ && (PA l r s k _ && (!bit s k || _)))
    cases hs : bit s k with
    | false => rw [if_neg (by decide), hv]; simp
    | true => rw [if_pos rfl, bitL_and, hv, row_bit hB hP hk hw hb]; simp [Bool.and_assoc]
theorem BkX_of {x y : XS} {F S : Nat} {l r : Nat → Nat} (h : ∀ q k, q = 21 ∨ q = 25 ∨ q = 26 → y.1 q k = x.1 q k) (hB : BkX x F S l r) : BkX y F S l r := by
  obtain ⟨a, b, c, d, e, f⟩ := hB
  exact ⟨a, b, by rw [h _ _ (Or.inl rfl)]; exact c, by rw [h _ _ (Or.inl rfl)]; exact d, e, fun k hk => by rw [h _ _ (by simp), h _ _ (by simp)]; exact f k hk⟩
theorem PeaB_of {x y : XS} {F S : Nat} {l r : Nat → Nat} (h1 : y.1 40 4 = x.1 40 4) (h2 : ∀ k, y.2 43 k = x.2 43 k) (hP : PeaB x F S l r) : PeaB y F S l r :=
  ⟨h1.trans hP.1, fun k hk w hw => (h2 _).trans (hP.2 k hk w hw)⟩
theorem land_ok {x : XS} {F S : Nat} {l r : Nat → Nat} {s : Int32} (hB : BkX x F S l r) (hP : PeaB x F S l r) (hw : x.1 40 6 = -1 ∨ LandC x F S l r (x.1 40 6)) (hs : s ≠ -1) : LandC (landLook s x) F S l r s ∧ (landLook s x).1 40 6 = s := by
  by_cases hc : s = x.1 40 6
  · unfold landLook
    rw [if_pos hc]
    rcases hw with h | h
    · exact absurd (hc.trans h) hs
    · rw [hc]; exact ⟨h, rfl⟩
  · unfold landLook
    rw [if_neg hc]
    dsimp only
    have hF := hB.1
    have hS := hB.2.1
    obtain ⟨u1, u2, u3, u4⟩ := used_c F (by omega)
    generalize hx2 : setI (setI x 40 6 s) 40 5 0 = x2
    have g6 : x2.1 40 6 = s := by rw [← hx2, rdI_nk (by decide)]; exact rdI_eq
    have g5 : x2.1 40 5 = 0 := by rw [← hx2]; exact rdI_eq
    have g4 : x2.1 40 4 = nI (usedN F) := by rw [← hx2, rdI_nk (by decide), rdI_nk (by decide)]; exact hP.1
    have gq : ∀ q k, q ≠ 40 → x2.1 q k = x.1 q k := fun q k h => by rw [← hx2, rdI_ne h, rdI_ne h]
    have gl : ∀ q k, x2.2 q k = x.2 q k := fun q k => by rw [← hx2]; rfl
    have hB2 : BkX x2 F S l r := BkX_of (fun q k h => gq q k (by omega)) hB
    have hP2 : PeaB x2 F S l r := PeaB_of (g4.trans hP.1.symm) (gl 43) hP
    have hm : min (x2.1 40 4).toNatClampNeg 16 = usedN F := by rw [g4, nI_clamp (by omega)]; omega
    rw [hm]
    have h7 := itP_rel (f := lkF s) (n := usedN F) (y := x2) (P := fun j (y : XS) => ((∀ w, w < j → ∀ b, b < 64 → bitL (y.2 41 w) b = Pw F (PA l r s S) (64 * w + b)) ∧ y.1 40 5 = nI (fb_ct (Pw F (PA l r s S)) (64 * j))) ∧ (∀ q k, q ≠ 40 ∨ k ≠ 5 → y.1 q k = x2.1 q k) ∧ ∀ q k, q ≠ 41 → y.2 q k = x2.2 q k)
      ⟨⟨fun w h => absurd h (Nat.not_lt_zero w), by rw [g5]; rfl⟩, fun _ _ _ => rfl, fun _ _ _ => rfl⟩ (fun j hj y hy => by
        obtain ⟨⟨y1, y5⟩, yq, yl⟩ := hy
        have hBy : BkX y F S l r := BkX_of (fun q k h => yq q k (Or.inl (by omega))) hB2
        have hPy : PeaB y F S l r := PeaB_of (yq _ _ (Or.inr (by decide))) (fun k => yl 43 k (by decide)) hP2
        have hSy : (y.1 21 1).toNatClampNeg = S := by rw [hBy.2.2.2.1, nI_clamp (by omega)]
        have hr : ∀ b, b < 64 → bitL (itP (restF y s (nI j)) S (allOfL y (nI j))) b = Pw F (PA l r s S) (64 * j + b) := fun b hb => rest_bit s hBy hPy hj hb
        unfold lkF
        dsimp only
        rw [hSy]
        generalize itP (restF y s (nI j)) S (allOfL y (nI j)) = v at hr
        refine ⟨⟨fun w hw b hb => ?_, ?_⟩, fun q k h => ?_, fun q k h => ?_⟩
        · show bitL ((setL y 41 j v).2 41 w) b = _
          by_cases e : w = j
          · rw [e, rdL_eq]; exact hr b hb
          · rw [rdL_nk e]; exact y1 w (by omega) b hb
        · rw [rdI_eq]
          show y.1 40 5 + bcL v = _
          have e := fb_ct_cong (p := bitL v) (q := fun b => Pw F (PA l r s S) (64 * j + b)) (n := 64) hr
          rw [y5, bcL_bit, nI_addN, e, ← fb_ct_split, ← Nat.mul_succ]
        · have : (setI (setL y 41 j v) 40 5 ((setL y 41 j v).1 40 5 + bcL v)).1 q k = (setL y 41 j v).1 q k := by
            rcases h with h | h
            · exact rdI_ne h
            · exact rdI_nk h
          rw [this]; exact yq q k h
        · show (setL y 41 j v).2 q k = _
          rw [rdL_ne h]; exact yl q k h)
    generalize itP (lkF s) (usedN F) x2 = x3 at h7
    obtain ⟨⟨p1, p2⟩, p3, p4⟩ := h7
    exact ⟨⟨p1, by rw [p2, ct_words (by omega)]⟩, by rw [p3 _ _ (Or.inr (by decide)), g6]⟩
theorem count_eq {x : XS} {F S : Nat} {l r : Nat → Nat} {s : Int32} (hB : BkX x F S l r) (hP : PeaB x F S l r) (hw : x.1 40 6 = -1 ∨ LandC x F S l r (x.1 40 6)) (hs : s ≠ -1) : countF x s = nI (fb_ct (PA l r s S) (2 ^ F)) := (land_ok hB hP hw hs).1.2
theorem countWith_eq {x : XS} {F S : Nat} {l r : Nat → Nat} {s : Int32} (hB : BkX x F S l r) (hP : PeaB x F S l r) (hw : x.1 40 6 = -1 ∨ LandC x F S l r (x.1 40 6)) (hs : s ≠ -1) {c : Nat} (hc : c < 20) : countWithF x s (nI c) = nI (fb_ct (fun p => PA l r s S p && holdsP p c) (2 ^ F)) := by
  obtain ⟨⟨h1, h2⟩, h3⟩ := land_ok hB hP hw hs
  have hF := hB.1
  obtain ⟨u1, u2, u3, u4⟩ := used_c F (by omega)
  unfold countWithF
  rw [land_40 (by decide) (by decide), hP.1, nI_clamp (by omega), Nat.min_eq_left u1]
  generalize landLook s x = y at h1
  have h7 := itP_rel (f := cwF y (nI c)) (n := usedN F) (y := (0 : Int32)) (P := fun j p => p = nI (fb_ct (fun p => Pw F (PA l r s S) p && holdsP p c) (64 * j))) rfl (fun j hj p hp => by
    unfold cwF
    have e := fb_ct_cong (p := bitL (y.2 41 j &&& holdsL (nI c) (nI j))) (q := fun b => Pw F (PA l r s S) (64 * j + b) && holdsP (64 * j + b) c) (n := 64) (fun b hb => by rw [bitL_and, h1 j hj b hb, holds_bit c hc j (by omega) b hb])
    rw [hp, bcL_bit, nI_addN, e, ← fb_ct_split (fun p => Pw F (PA l r s S) p && holdsP p c), ← Nat.mul_succ])
  rw [h7]
  have e : fb_ct (fun p => Pw F (PA l r s S) p && holdsP p c) (64 * usedN F) = fb_ct (Pw F (fun p => PA l r s S p && holdsP p c)) (64 * usedN F) := fb_ct_cong (fun k _ => by unfold Pw; rw [Bool.and_assoc])
  rw [e, ct_words (by omega)]
