/-! A word's run, its kind -/
def NX (x y : XS) (q : Nat) (v : Int64) : Prop := (∀ i k, ¬ (i = 3 ∧ k = 5) → y.1 i k = x.1 i k) ∧ y.1 3 5 = nI q ∧ (∀ i k, ¬ (i = 3 ∧ k = 6) → y.2 i k = x.2 i k) ∧ y.2 3 6 = v
def Alv (v : Int32) : Bool := letB v || digB v
theorem NX.step {x y : XS} {q q' : Nat} {v v' : Int64} (h : NX x y q v) : NX x (setI (setL y 3 6 v') 3 5 (nI q')) q' v' := by
  obtain ⟨a, b, c, d⟩ := h
  refine ⟨fun i k g => ?_, rdI_eq, fun i k g => ?_, show (setL y 3 6 v').2 3 6 = v' from rdL_eq⟩
  · rw [rdI, if_neg g]; exact a i k g
  · show (setL y 3 6 v').2 i k = _
    by_cases hi : i = 3
    · rw [rdL_nk (fun hk => g ⟨hi, hk⟩)]; exact c i k g
    · rw [rdL_ne hi]; exact c i k g
theorem bv_lt {b : Nat → Nat} {n k : Nat} (h : k < n) : bv b n k = nI (b k) := if_pos h
theorem bv_ge {b : Nat → Nat} {n k : Nat} (h : n ≤ k) : bv b n k = -1 := if_neg (by omega)
theorem word_run {x z : XS} {n : Nat} {b : Nat → Nat} (hT : TB x z n b) {p : Nat} : ∀ (m k : Nat) (y : XS), p + k ≤ n → n - (p + k) = m → NX x y (p + k) (Int64.ofNat (pk b p k)) → (∀ i, i < k → Alv (bv b n (p + i)) = true) →
    ∃ l, k ≤ l ∧ p + l ≤ n ∧ (∀ i, i < l → Alv (bv b n (p + i)) = true) ∧ Alv (bv b n (p + l)) = false ∧ NX x (wordL m y) (p + l) (Int64.ofNat (pk b p l))
  | 0, k, y, h0, h1, h2, h3 => ⟨k, Nat.le_refl _, by omega, h3, by rw [bv_ge (by omega)]; decide, h2⟩
  | m + 1, k, y, h0, h1, h2, h3 => by
    have hn := hT.1
    have hpk : p + k < n := by omega
    have hat : atF y (nI (p + k)) = bv b n (p + k) := at_ok hT (by omega) (h2.1 1 1 (by decide)) (fun j => h2.1 2 j (by omega))
    have e : ¬ y.1 1 1 ≤ y.1 3 5 := by
      rw [h2.2.1, h2.1 1 1 (by decide), hT.2.1]
      exact fun q => by have := (nI_leq (by omega) (by omega)).mp q; omega
    rw [wordL, if_neg e, h2.2.1, hat, h2.2.2.2]
    by_cases ha : Alv (bv b n (p + k)) = true
    · have ha' : (letB (bv b n (p + k)) || digB (bv b n (p + k))) = true := ha
      rw [if_pos ha', show nI (p + k) + 1 = nI (p + (k + 1)) from nI_addN (p + k) 1]
      have hb := hT.2.2.2 (p + k) hpk
      have al1 : al (b (p + k)) = true := by rw [bv_lt hpk] at ha; exact ha
      have hp : packF (Int64.ofNat (pk b p k)) (bv b n (p + k)) = Int64.ofNat (pk b p (k + 1)) := by rw [bv_lt hpk]; exact pack_ok _ hb.1 al1
      rw [hp]
      obtain ⟨l, a1, a2, a3, a4, a5⟩ := word_run (p := p) hT m (k + 1) _ (by omega) (by omega) h2.step (fun i hi => by
        rcases Nat.lt_or_ge i k with g | g
        · exact h3 i g
        · rw [show i = k by omega]; exact ha)
      exact ⟨l, by omega, a2, a3, a4, a5⟩
    · have ha' : ¬ (letB (bv b n (p + k)) || digB (bv b n (p + k))) = true := ha
      rw [if_neg ha']
      exact ⟨k, Nat.le_refl _, h0, h3, by cases h : Alv (bv b n (p + k)) with
        | true => exact absurd h ha
        | false => rfl, h2⟩
/-- the number of a run of digits -/
def nb (b : Nat → Nat) (s : Nat) : Nat → Nat
  | 0 => 0
  | k + 1 => nb b s k * 10 + (b (s + k) - 48)
theorem dig_rng : ∀ m, m < 256 → digB (nI m) = true → 48 ≤ m ∧ (nI m - 48).toInt64 = Int64.ofNat (m - 48) := by decide +kernel
theorem num_run {x z : XS} {n : Nat} {b : Nat → Nat} (hT : TB x z n b) {p : Nat} : ∀ (m k : Nat) (y : XS), p + k ≤ n → n - (p + k) = m → NX x y (p + k) (Int64.ofNat (nb b p k)) → (∀ i, i < k → digB (bv b n (p + i)) = true) →
    ∃ l, k ≤ l ∧ p + l ≤ n ∧ (∀ i, i < l → digB (bv b n (p + i)) = true) ∧ digB (bv b n (p + l)) = false ∧ NX x (numL m y) (p + l) (Int64.ofNat (nb b p l))
  | 0, k, y, h0, h1, h2, h3 => ⟨k, Nat.le_refl _, by omega, h3, by rw [bv_ge (by omega)]; decide, h2⟩
  | m + 1, k, y, h0, h1, h2, h3 => by
    have hn := hT.1
    have hpk : p + k < n := by omega
    have hat : atF y (nI (p + k)) = bv b n (p + k) := at_ok hT (by omega) (h2.1 1 1 (by decide)) (fun j => h2.1 2 j (by omega))
    have e : ¬ y.1 1 1 ≤ y.1 3 5 := by
      rw [h2.2.1, h2.1 1 1 (by decide), hT.2.1]
      exact fun q => by have := (nI_leq (by omega) (by omega)).mp q; omega
    rw [numL, if_neg e, h2.2.1, hat, h2.2.2.2]
    by_cases ha : digB (bv b n (p + k)) = true
    · rw [if_pos ha, show nI (p + k) + 1 = nI (p + (k + 1)) from nI_addN (p + k) 1]
      have hb := hT.2.2.2 (p + k) hpk
      have hp : Int64.ofNat (nb b p k) * 10 + (bv b n (p + k) - 48).toInt64 = Int64.ofNat (nb b p (k + 1)) := by
        rw [bv_lt hpk] at ha ⊢
        rw [(dig_rng _ hb.1 ha).2]
        show _ = Int64.ofNat (nb b p k * 10 + (b (p + k) - 48))
        rw [Int64.ofNat_add, Int64.ofNat_mul]; rfl
      rw [hp]
      obtain ⟨l, a1, a2, a3, a4, a5⟩ := num_run (p := p) hT m (k + 1) _ (by omega) (by omega) h2.step (fun i hi => by
        rcases Nat.lt_or_ge i k with g | g
        · exact h3 i g
        · rw [show i = k by omega]; exact ha)
      exact ⟨l, by omega, a2, a3, a4, a5⟩
    · rw [if_neg ha]
      exact ⟨k, Nat.le_refl _, h0, h3, by cases h : digB (bv b n (p + k)) with
        | true => exact absurd h ha
        | false => rfl, h2⟩
/-- one word of the language against the tape -/
theorem word32 {z : XS} {b : Nat → Nat} {p len j : Nat} (hj : j < 27) (hl : (txB j).length = len) (hp : p + len ≤ 2000) (hz : ∀ i, i < len → b (p + i) < 256 ∧ z.1 1 (p + i) = nI (b (p + i))) (k2 : Int32 → Int32 → Int32 → XS → Option (Int32 × XS)) :
    ∀ (m i fuel : Nat), i + m = len → m + 1 < fuel → ((∀ a, i ≤ a → a < len → kb j a = b (p + a)) → f_X10_word_L32 k2 fuel (nI p) (nI len) (nI j) 1 (nI i) z = some (nI j, z)) ∧ (¬ (∀ a, i ≤ a → a < len → kb j a = b (p + a)) → f_X10_word_L32 k2 fuel (nI p) (nI len) (nI j) 1 (nI i) z = k2 (nI p) (nI len) (nI (j + 1)) z)
  | _, _, 0, _, h => absurd h (Nat.not_lt_zero _)
  | 0, i, fuel + 1, h, _ => by
    rw [f_X10_word_L32, if_neg (by decide), show i = len by omega, if_pos (Int32.le_refl _), if_neg (by decide)]
    exact ⟨fun _ => rfl, fun g => absurd (fun a h1 h2 => by omega) g⟩
  | m + 1, i, fuel + 1, h, hf => by
    have hk := (kb_ok j hj).2 i (by omega)
    have hzi := hz i (by omega)
    have ht := (kb_ok j hj).1
    rw [f_X10_word_L32, if_neg (by decide), if_neg (fun q => by have := (nI_leq (by omega) (by omega)).mp q; omega), inB_nI hj (by decide), og_tr, nI_clamp (by omega), inB_nI (show i < (txB j).length by omega) (by omega), og_tr, show nI p + nI i = nI (p + i) from nI_addN p i, inB_nI (show p + i < 2000 by omega) (by decide), og_tr, nI_clamp (show p + i < 2 ^ 31 by omega), hzi.2, show nI i + 1 = nI (i + 1) from nI_addN i 1]
    have hc : chT j (nI i) = nI (kb j i) := by
      unfold chT byT
      rw [nI_clamp (by omega)]; exact hk.2.2
    rw [hc]
    by_cases he : kb j i = b (p + i)
    · rw [if_pos (by rw [he])]
      obtain ⟨r1, r2⟩ := word32 hj hl hp hz k2 m (i + 1) fuel (by omega) (by omega)
      refine ⟨fun g => r1 (fun a h1 h2 => g a (by omega) h2), fun g => r2 (fun q => g (fun a h1 h2 => ?_))⟩
      rcases Nat.lt_or_ge i a with k | k
      · exact q a k h2
      · rw [show a = i by omega]; exact he
    · rw [if_neg (fun q => he ((nI_inj (by omega) (by omega)).mp q))]
      cases fuel with
      | zero => omega
      | succ f =>
        rw [f_X10_word_L32, if_pos rfl, if_pos rfl, show nI j + 1 = nI (j + 1) from nI_addN j 1]
        exact ⟨fun g => absurd (g i (Nat.le_refl _) (by omega)) he, fun _ => rfl⟩
theorem word_both {y z : XS} {b : Nat → Nat} {p len : Nat} (hlen : len ≤ 10) (hp : p + len ≤ 2000) (hz : ∀ i, i < len → (b (p + i) < 256 ∧ al (b (p + i)) = true) ∧ z.1 1 (p + i) = nI (b (p + i))) (hky : ∀ j, j < 27 → y.2 4 j = Int64.ofNat (pk (kb j) 0 (txB j).length)) :
    ∀ (r j fuel : Nat), j + r = 27 → r < fuel → ∃ w, f_X10_word_L2 fuel (nI p) (nI len) (nI j) z = some (w, z) ∧ ((kwL y (Int64.ofNat (pk b p len)) r j = 258 ∧ w = 40) ∨ ∃ k, k < 27 ∧ kwL y (Int64.ofNat (pk b p len)) r j = 300 + nI k ∧ w = nI k)
  | _, _, 0, _, h => absurd h (Nat.not_lt_zero _)
  | 0, j, fuel + 1, h, _ => by
    rw [f_X10_word_L2, if_pos (show (27 : Int32) ≤ nI j from (nI_leq (a := 27) (by omega) (by omega)).mpr (by omega))]
    exact ⟨40, rfl, Or.inl ⟨rfl, rfl⟩⟩
  | r + 1, j, fuel + 1, h, hf => by
    have hj : j < 27 := by omega
    have hk := kb_ok j hj
    rw [f_X10_word_L2, if_neg (fun (q : (27 : Int32) ≤ nI j) => by have := (nI_leq (a := 27) (by omega) (by omega)).mp q; omega), inB_nI hj (by decide), og_tr, nI_clamp (by omega), kwL, hky j hj]
    have pe := pk64 (b := kb j) (c := b) (s := 0) (t := p) hk.1 hlen (fun i hi => by rw [Nat.zero_add]; exact ⟨(hk.2 i hi).1, (hk.2 i hi).2.1⟩) (fun i hi => (hz i hi).1)
    have ih := word_both hlen hp hz hky r (j + 1) fuel (by omega) (by omega)
    have hlT : lenT j = nI (txB j).length := rfl
    rw [hlT]
    by_cases hl : (txB j).length = len
    · obtain ⟨r1, r2⟩ := word32 hj hl hp (fun i hi => ⟨(hz i hi).1.1, (hz i hi).2⟩) (f_X10_word_L2 fuel) len 0 402 (by omega) (by omega)
      have e0 : f_X10_word_L32 (f_X10_word_L2 fuel) 402 (nI p) (nI len) (nI j) 1 0 z = f_X10_word_L32 (f_X10_word_L2 fuel) 402 (nI p) (nI len) (nI j) 1 (nI 0) z := rfl
      rw [if_pos (by rw [hl]), e0]
      by_cases g : ∀ a, 0 ≤ a → a < len → kb j a = b (p + a)
      · rw [r1 g, if_pos (pe.mpr ⟨hl, fun i hi => by rw [Nat.zero_add]; exact g i (Nat.zero_le _) (by omega)⟩)]
        exact ⟨nI j, rfl, Or.inr ⟨j, hj, rfl, rfl⟩⟩
      · rw [r2 g, if_neg (fun q => g (fun a _ h2 => by have := (pe.mp q).2 a (by omega); rw [Nat.zero_add] at this; exact this))]
        exact ih
    · rw [if_neg (fun q => hl ((nI_inj (by omega) (by omega)).mp q)), if_neg (fun q => hl (pe.mp q).1)]
      rw [f_X10_word_L32, if_pos rfl, if_pos rfl, show nI j + 1 = nI (j + 1) from nI_addN j 1]
      exact ih
