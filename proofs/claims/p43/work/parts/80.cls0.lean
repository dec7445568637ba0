/-! Small things out of whole's rows -/
theorem small_m {S m : Nat} (hS : S ≤ 20) (h : m < 2 ^ S) : m < 2 ^ 20 := Nat.lt_of_lt_of_le h (Nat.pow_le_pow_right (by decide) hS)
theorem nI_ne1 {m : Nat} (h : m < 2 ^ 20) : nI m ≠ -1 := by
  intro e
  have := congrArg Int32.toInt e
  rw [nI_toInt (by omega)] at this
  have h2 : (-1 : Int32).toInt = -1 := by decide
  omega
theorem WebC_of {x y : XS} {F S : Nat} {l r : Nat → Nat} {s : Int32} (h : ∀ q k, q = 37 ∨ q = 38 ∨ q = 39 → y.1 q k = x.1 q k) (hW : WebC x F S l r s) : WebC y F S l r s := by
  obtain ⟨a, b, c, d⟩ := hW
  exact ⟨by rw [h _ _ (by simp)]; exact a, fun i hi j hj => by rw [h _ _ (by simp)]; exact b i hi j hj, fun i hi j hj => by rw [h _ _ (by simp)]; exact c i hi j hj, by rw [h _ _ (by simp)]; exact d⟩
theorem LandC_of {x y : XS} {F S : Nat} {l r : Nat → Nat} {s : Int32} (h1 : y.1 40 5 = x.1 40 5) (h2 : ∀ k, y.2 41 k = x.2 41 k) (hL : LandC x F S l r s) : LandC y F S l r s :=
  ⟨fun w hw b hb => by rw [h2]; exact hL.1 w hw b hb, h1.trans hL.2⟩
theorem reach_eq {x : XS} {s : Int32} {c : Nat} (hc : c < 20) : reachF x s (nI c) = (webLook s x).1 39 c := by
  unfold reachF
  rw [if_neg (nI_pos (by omega)), if_neg (nI_ge hc (by decide)), nI_clamp (by omega)]
theorem bcI_bit (v : Int32) : bcI v = nI (fb_ct (bit v) 32) := bcI_ct v
theorem part_size {x : XS} {n : Nat} {A : Mat} (hn : n ≤ 20) (h : Rows 39 n x A) (h3 : x.1 37 3 = nI n) {c : Nat} (hc : c < n) : bcI (togetherF x (nI c)) = nI (fb_ct (fun j => A j c && A c j) n) := by
  have hb := together_bit hn h h3 hc
  have e : fb_ct (bit (togetherF x (nI c))) (n + (32 - n)) = fb_ct (fun j => A j c && A c j) n := by
    rw [fb_ct_split]
    have e1 : fb_ct (fun k => bit (togetherF x (nI c)) (n + k)) (32 - n) = 0 := fb_ct_zero.mpr (fun j hj => by rw [hb _ (by omega), decide_eq_false (by omega), Bool.false_and])
    rw [e1, Nat.add_zero]
    exact fb_ct_cong (fun j hj => by rw [hb _ (by omega), decide_eq_true hj, Bool.true_and])
  rw [bcI_bit, ← e, show n + (32 - n) = 32 by omega]
theorem best_uniq {P : Nat → Bool} {n t u : Nat} (h1 : Best P n t) (h2 : Best P n u) : t = u := by
  rcases h1 with ⟨a, b⟩ | ⟨a, b, c⟩
  · rcases h2 with ⟨d, e⟩ | ⟨d, e, f⟩
    · omega
    · rw [a u d] at e; cases e
  · rcases h2 with ⟨d, e⟩ | ⟨d, e, f⟩
    · rw [d t a] at b; cases b
    · rcases c u d e with q | q
      · exact q.symm
      · rcases f t a b with q2 | q2
        · exact q2
        · exact (ahead_not q q2).elim
theorem og_true {α : Type} (r : Option α) : og true r = r := rfl
theorem og_tr {α : Type} (r : Option α) : og true r = r := if_pos rfl
theorem ob_some1 {α β : Type} (v : β) (f : β → Option α) : ob (some v) f = f v := rfl
theorem rbo_inr1 (v : Option Value) (y : XS) (f : XS → Option RT) : rbo (.inr (v, y)) f = f y := rfl
theorem rbo_inl1 (e : String × XS) (f : XS → Option RT) : rbo (.inl e) f = some (.inl e) := rfl
theorem inB_nI {k n : Nat} (hk : k < n) (hn : n < 2 ^ 31) : inB (nI k) n = true := by
  unfold inB
  rw [decide_eq_true_iff, nI_clamp (by omega)]
  rintro (h | h)
  · exact nI_pos (by omega) h
  · omega
theorem b2i_f {b : Bool} (h : b = false) : b2i b = 0 := by rw [h]; rfl
theorem b2i_n {b : Bool} (h : b = true) : ¬ b2i b = 0 := by rw [h]; decide
theorem bit_m1 : ∀ j, j < 32 → bit (-1) j = true := by decide +kernel
theorem without_ne {v : Int32} {k : Nat} (hk : k < 32) : withoutI v (nI k) ≠ -1 := by
  intro e
  have := bit_without (v := v) hk hk
  rw [e, bit_m1 k hk, decide_eq_true rfl, Bool.not_true, Bool.and_false] at this
  cases this
theorem nz_eq {n : Nat} (h : n < 2 ^ 31) : nI n = 0 ↔ n = 0 := by
  have := nI_eq (a := n) (b := 0) h (by decide)
  exact this
theorem nz_le {n : Nat} (h : n < 2 ^ 31) : nI n ≤ 0 ↔ n = 0 := by
  have : nI n ≤ nI 0 ↔ n ≤ 0 := nI_leI h (by decide)
  exact this.trans ⟨fun z => by omega, fun z => by omega⟩
theorem nz_lt {n : Nat} (h : n < 2 ^ 31) : 0 < nI n ↔ 0 < n := by
  have : nI 0 < nI n ↔ 0 < n := nI_ltI (by decide) h
  exact this
