/-! One place of a test, in both -/
def bins : List (Int32 × Int32 × Bool × Bool) := [(42, 36, false, false), (43, 34, false, false), (45, 35, false, false), (47, 37, false, false), (60, 38, false, true), (62, 39, false, true), (256, 43, false, true), (257, 44, false, true), (61, 42, false, true), (306, 6, true, true), (324, 24, true, true), (325, 25, false, false), (326, 26, false, false)]
def yn (b : Bool) (v : Int32) : Prop := b = true → v = 0 ∨ v = 1
theorem yn_b {c : Prop} [Decidable c] (b : Bool) : yn b (if c then 0 else 1) := fun _ => by split <;> simp
theorem yn_b' {c : Prop} [Decidable c] (b : Bool) : yn b (if c then 1 else 0) := fun _ => by split <;> simp
theorem cmp_b {c : Prop} [Decidable c] : b2i (if c then false else true) = if c then 0 else 1 := by split <;> rfl
theorem cmp_b' {c : Prop} [Decidable c] : b2i (if c then true else false) = if c then 1 else 0 := by split <;> rfl
theorem bin_ok {o w : Int32} {i b : Bool} (h : (o, w, i, b) ∈ bins) {p q : Int32} (hp : yn i p) (hq : yn i q) : combF o p q = bothF w p q ∧ yn b (combF o p q) ∧ takenF w < 0 ∧ ¬ w = 33 ∧ ¬ w = 23 ∧ ¬ o = 259 ∧ ¬ o = 262 ∧ ¬ o = 315 ∧ ¬ o = 316 ∧ ¬ o = 317 ∧ ¬ o = 318 ∧ ¬ o = 319 ∧ ¬ o = 320 ∧ ¬ o = 321 ∧ ¬ o = 323 := by
  unfold bins at h
  simp only [List.mem_cons, Prod.mk.injEq, List.not_mem_nil, or_false] at h
  rcases h with ⟨rfl, rfl, rfl, rfl⟩ | ⟨rfl, rfl, rfl, rfl⟩ | ⟨rfl, rfl, rfl, rfl⟩ | ⟨rfl, rfl, rfl, rfl⟩ | ⟨rfl, rfl, rfl, rfl⟩ | ⟨rfl, rfl, rfl, rfl⟩ | ⟨rfl, rfl, rfl, rfl⟩ | ⟨rfl, rfl, rfl, rfl⟩ | ⟨rfl, rfl, rfl, rfl⟩ | ⟨rfl, rfl, rfl, rfl⟩ | ⟨rfl, rfl, rfl, rfl⟩ | ⟨rfl, rfl, rfl, rfl⟩ | ⟨rfl, rfl, rfl, rfl⟩
  · exact ⟨rfl, fun h => (by cases h), by decide⟩
  · exact ⟨rfl, fun h => (by cases h), by decide⟩
  · exact ⟨rfl, fun h => (by cases h), by decide⟩
  · exact ⟨rfl, fun h => (by cases h), by decide⟩
  · have e : combF 60 p q = if q ≤ p then 0 else 1 := cmp_b
    rw [e]; exact ⟨rfl, yn_b _, by decide⟩
  · have e : combF 62 p q = if p ≤ q then 0 else 1 := cmp_b
    rw [e]; exact ⟨rfl, yn_b _, by decide⟩
  · have e : combF 256 p q = if q < p then 0 else 1 := cmp_b
    rw [e]; exact ⟨rfl, yn_b _, by decide⟩
  · have e : combF 257 p q = if p < q then 0 else 1 := cmp_b
    rw [e]; exact ⟨rfl, yn_b _, by decide⟩
  · have e : combF 61 p q = if p = q then 1 else 0 := cmp_b'
    rw [e]; exact ⟨rfl, yn_b' _, by decide⟩
  · refine ⟨rfl, fun _ => ?_, by decide⟩
    show p ||| q = 0 ∨ p ||| q = 1
    rcases hp rfl with e1 | e1 <;> rcases hq rfl with e2 | e2 <;> rw [e1, e2] <;> decide
  · refine ⟨rfl, fun _ => ?_, by decide⟩
    show p &&& q = 0 ∨ p &&& q = 1
    rcases hp rfl with e1 | e1 <;> rcases hq rfl with e2 | e2 <;> rw [e1, e2] <;> decide
  · exact ⟨rfl, fun h => (by cases h), by decide⟩
  · exact ⟨rfl, fun h => (by cases h), by decide⟩
def ItX (x z : XS) (F S pl nx nx' : Nat) (T T' : List Bool) : Prop :=
  (x.1 31 pl = 259 ∧ z.1 19 nx = 32 ∧ x.1 32 pl = z.1 19 (nx + 1) ∧ nx' = nx + 2 ∧ T' = false :: T) ∨
  (x.1 31 pl = 262 ∧ z.1 19 nx = 33 ∧ nx' = nx + 1 ∧ ∃ t, T = false :: t ∧ T' = false :: t) ∨
  (x.1 31 pl = 315 ∧ z.1 19 nx = 15 ∧ nx' = nx + 1 ∧ T' = false :: T) ∨
  (x.1 31 pl = 316 ∧ z.1 19 nx = 16 ∧ nx' = nx + 1 ∧ T' = false :: T) ∨
  (x.1 31 pl = 317 ∧ z.1 19 nx = 17 ∧ nx' = nx + 1 ∧ T' = false :: T) ∨
  (x.1 31 pl = 318 ∧ z.1 19 nx = 18 ∧ nx' = nx + 1 ∧ T' = false :: T) ∨
  (x.1 31 pl = 319 ∧ z.1 19 nx = 19 ∧ nx' = nx + 3 ∧ T' = true :: T ∧ ∃ c, c < 2 * F ∧ x.1 32 pl = nI c ∧ 2 * z.1 19 (nx + 1) + z.1 19 (nx + 2) = nI c) ∨
  (x.1 31 pl = 320 ∧ z.1 19 nx = 20 ∧ nx' = nx + 2 ∧ T' = true :: T ∧ ∃ k, k < S ∧ x.1 32 pl = nI k ∧ z.1 19 (nx + 1) = nI k) ∨
  (x.1 31 pl = 321 ∧ z.1 19 nx = 21 ∧ nx' = nx + 5 ∧ T' = true :: T ∧ ∃ c d, c < 2 * F ∧ d < 2 * F ∧ x.1 32 pl = nI c ∧ x.1 33 pl = nI d ∧ 2 * z.1 19 (nx + 1) + z.1 19 (nx + 2) = nI c ∧ 2 * z.1 19 (nx + 3) + z.1 19 (nx + 4) = nI d) ∨
  (x.1 31 pl = 323 ∧ z.1 19 nx = 23 ∧ nx' = nx + 1 ∧ ∃ t, T = true :: t ∧ T' = true :: t) ∨
  (∃ i b t, (x.1 31 pl, z.1 19 nx, i, b) ∈ bins ∧ nx' = nx + 1 ∧ T = i :: i :: t ∧ T' = b :: t)
theorem JS_of {T : List Bool} {x y z w : XS} (h1 : ∀ q k, q = 44 ∨ q = 45 → y.1 q k = x.1 q k) (h2 : ∀ k, w.1 7 k = z.1 7 k) (h : JS T x z) : JS T y w :=
  ⟨h.1, by rw [h1 _ _ (by simp)]; exact h.2.1, StR_of (fun k _ => h1 _ _ (by simp)) (fun k _ => h2 k) h.2.2⟩
theorem co_push {z z1 : XS} {e v : Int32} {n nx L : Nat} (he : ¬ e ≤ nI nx) (hnx : nx < 800) (hL : L < 400) (hw : ¬ takenF (z.1 19 nx) < 0) (hp : pushO (z.1 19 nx) (nI (nx + 1)) z = some (v, z1)) : coL e (n + 1) (nI nx) (tpI L) z = coL e n (nI (nx + 1) + takenF (z.1 19 nx)) (tpI (L + 1)) (setI z1 7 L v) := by
  rw [coL, if_neg he, inB_nI hnx (by decide), if_pos rfl, nI_clamp (by omega), if_neg hw, tpI_1, inB_nI hL (by decide), if_pos rfl, show nI nx + 1 = nI (nx + 1) from nI_addN nx 1, hp, nI_clamp (by omega), tpI_s]
theorem co_un {z : XS} {e : Int32} {n nx L : Nat} (he : ¬ e ≤ nI nx) (hnx : nx < 800) (hL : L < 400) (hw : takenF (z.1 19 nx) < 0) : (z.1 19 nx = 33 → coL e (n + 1) (nI nx) (tpI (L + 1)) z = coL e n (nI (nx + 1)) (tpI (L + 1)) (setI z 7 L (-(z.1 7 L)))) ∧ (z.1 19 nx = 23 → coL e (n + 1) (nI nx) (tpI (L + 1)) z = coL e n (nI (nx + 1)) (tpI (L + 1)) (setI z 7 L (1 - z.1 7 L))) := by
  rw [coL, if_neg he, inB_nI hnx (by decide), if_pos rfl, nI_clamp (by omega), if_pos hw, tpI_s, inB_nI hL (by decide), nI_clamp (by omega), show nI nx + 1 = nI (nx + 1) from nI_addN nx 1]
  refine ⟨fun h => ?_, fun h => ?_⟩
  · rw [if_pos h, if_pos rfl]
  · rw [if_neg (by rw [h]; decide), if_pos h, if_pos rfl]
theorem co_bin {z : XS} {e : Int32} {n nx L : Nat} (he : ¬ e ≤ nI nx) (hnx : nx < 800) (hL : L + 1 < 400) (hw : takenF (z.1 19 nx) < 0) (h33 : ¬ z.1 19 nx = 33) (h23 : ¬ z.1 19 nx = 23) : coL e (n + 1) (nI nx) (tpI (L + 2)) z = coL e n (nI (nx + 1)) (tpI (L + 1)) (setI z 7 L (bothF (z.1 19 nx) (z.1 7 L) (z.1 7 (L + 1)))) := by
  have e1 : tpI (L + 2) + Int32.ofInt (-1) = nI L := by
    rw [show L + 2 = (L + 1) + 1 from rfl, tpI_s]; exact tpI_s L
  have e2 : nI L + Int32.ofInt (-1) + 1 = nI L := tpI_1 L
  have e3 : nI L + 1 = nI (L + 1) := nI_addN L 1
  rw [coL, if_neg he, inB_nI hnx (by decide), if_pos rfl, nI_clamp (by omega), if_pos hw, if_neg h33, if_neg h23, e1, e3, inB_nI (show L < 400 by omega) (by decide), if_pos rfl, inB_nI hL (by decide), if_pos rfl, nI_clamp (by omega), nI_clamp (by omega), show nI nx + 1 = nI (nx + 1) from nI_addN nx 1, tpI_s]
theorem rec_eq (c : Nat) {x : XS} {pl : Nat} (hpl : pl < 400) : entI x 31 400 (nI pl) = x.1 31 pl ∧ entI x 32 400 (nI pl) = x.1 32 pl ∧ entI x 33 400 (nI pl) = x.1 33 pl :=
  ⟨entI_nI hpl (by decide), entI_nI hpl (by decide), entI_nI hpl (by decide)⟩
