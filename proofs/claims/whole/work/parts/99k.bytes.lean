/-! Bytes and words of the tape, in both -/
theorem and255 (v : Int32) : ∃ m, m < 256 ∧ v &&& 255 = nI m := by
  refine ⟨(v.toBitVec &&& 255#32).toNat, ?_, ?_⟩
  · rw [BitVec.toNat_and]
    exact Nat.lt_of_le_of_lt Nat.and_le_right (by decide)
  · apply Int32.toBitVec.inj
    show v.toBitVec &&& 255#32 = BitVec.ofNat 32 _
    simp
def bv (b : Nat → Nat) (n k : Nat) : Int32 := if k < n then nI (b k) else -1
def TB (x z : XS) (n : Nat) (b : Nat → Nat) : Prop := n ≤ 2000 ∧ x.1 1 1 = nI n ∧ z.1 0 2 = nI n ∧ ∀ k, k < n → b k < 256 ∧ x.1 2 k &&& 255 = nI (b k) ∧ z.1 1 k = nI (b k)
theorem TB_of {x z : XS} (h : TapR x z) : ∃ n b, TB x z n b := by
  obtain ⟨n, a1, a2, a3, a4⟩ := h
  refine ⟨n, fun k => Classical.choose (and255 (x.1 2 k)), a1, a2, a3, fun k hk => ?_⟩
  have hc := Classical.choose_spec (and255 (x.1 2 k))
  exact ⟨hc.1, hc.2, (a4 k hk).trans hc.2⟩
theorem at_ok {x z : XS} {n : Nat} {b : Nat → Nat} (h : TB x z n b) {k : Nat} (hk : k < 2 ^ 31) {y : XS} (h1 : y.1 1 1 = x.1 1 1) (h2 : ∀ j, y.1 2 j = x.1 2 j) : atF y (nI k) = bv b n k := by
  obtain ⟨a1, a2, a3, a4⟩ := h
  unfold atF bv
  rw [h1, a2, if_neg (nI_nn hk)]
  by_cases g : k < n
  · rw [if_neg (fun q => by have := (nI_leq (by omega) hk).mp q; omega), if_neg (fun q => by have := (nI_leq (by omega) hk).mp q; omega), if_pos g, nI_clamp hk, h2, (a4 k g).2.1]
  · rw [if_pos ((nI_leq (by omega) hk).mpr (by omega)), if_neg g]
theorem by_ok {x z : XS} {n : Nat} {b : Nat → Nat} (h : TB x z n b) {k : Nat} (hk : k < 2 ^ 31) {w : XS} (h1 : w.1 0 2 = z.1 0 2) (h2 : ∀ j, w.1 1 j = z.1 1 j) : f_X10_byteOf (nI k) w = some (bv b n k, w) := by
  obtain ⟨a1, a2, a3, a4⟩ := h
  unfold f_X10_byteOf bv
  rw [h1, a3]
  by_cases g : k < n
  · rw [if_neg (fun q => by have := (nI_leq (by omega) hk).mp q; omega), inB_nI (show k < 2000 by omega) (by decide), og_tr, nI_clamp hk, h2, (a4 k g).2.2, if_pos g]
  · rw [if_pos ((nI_leq (by omega) hk).mpr (by omega)), if_neg g]
theorem let_ok (v : Int32) (w : XS) : f_X10_isLetter v w = some (letB v, w) := by
  unfold f_X10_isLetter letB
  split
  · rfl
  · split <;> rfl
theorem dig_ok (v : Int32) (w : XS) : f_X10_isDigit v w = some (digB v, w) := by
  unfold f_X10_isDigit digB
  split
  · rfl
  · split <;> rfl
def al (m : Nat) : Bool := letB (nI m) || digB (nI m)
def cd (m : Nat) : Nat := if digB (nI m) then m - 48 + 27 else m - 97 + 1
theorem cd_ok : ∀ m, m < 256 → al m = true → cd m < 64 ∧ 0 < cd m ∧ (if digB (nI m) then nI m - 48 + 27 else nI m - 97 + 1).toInt64 = Int64.ofNat (cd m) ∧ (if cd m < 27 then cd m + 96 else cd m + 21) = m := by decide +kernel
theorem cd_inj {m k : Nat} (hm : m < 256) (hk : k < 256) (am : al m = true) (ak : al k = true) (h : cd m = cd k) : m = k := by
  have a := (cd_ok m hm am).2.2.2
  have b := (cd_ok k hk ak).2.2.2
  rw [h] at a
  exact a.symm.trans b
theorem pack_ok (p : Nat) {m : Nat} (hm : m < 256) (ha : al m = true) : packF (Int64.ofNat p) (nI m) = Int64.ofNat (64 * p + cd m) := by
  obtain ⟨c1, c2, c3, -⟩ := cd_ok m hm ha
  unfold packF shlL
  rw [c3]
  apply Int64.toBitVec.inj
  rw [Int64.toBitVec_or, Int64.toBitVec_shiftLeft, show (((6 : Int32).toInt64 &&& 63).toBitVec.smod 64) = 6#64 by decide]
  show BitVec.ofNat 64 p <<< 6#64 ||| BitVec.ofNat 64 (cd m) = BitVec.ofNat 64 (64 * p + cd m)
  apply BitVec.eq_of_toNat_eq
  rw [BitVec.toNat_or, BitVec.shiftLeft_eq', BitVec.toNat_shiftLeft, show (6#64).toNat = 6 from rfl, BitVec.toNat_ofNat, BitVec.toNat_ofNat, BitVec.toNat_ofNat]
  have e1 : (p % 2 ^ 64) <<< 6 % 2 ^ 64 = (p % 2 ^ 58) <<< 6 := by
    rw [Nat.shiftLeft_eq, Nat.shiftLeft_eq]; omega
  rw [e1, Nat.mod_eq_of_lt (show cd m < 2 ^ 64 by omega), ← Nat.shiftLeft_add_eq_or_of_lt (show cd m < 2 ^ 6 by omega), Nat.shiftLeft_eq]
  omega
/-- the packed bytes of a word -/
def pk (b : Nat → Nat) (s : Nat) : Nat → Nat
  | 0 => 0
  | k + 1 => 64 * pk b s k + cd (b (s + k))
theorem pkw_lt {b : Nat → Nat} {s : Nat} : ∀ {k : Nat}, (∀ i, i < k → b (s + i) < 256 ∧ al (b (s + i)) = true) → pk b s k < 64 ^ k
  | 0, _ => Nat.one_pos
  | k + 1, h => by
    have a := pkw_lt (b := b) (s := s) (k := k) (fun i hi => h i (by omega))
    have c := (cd_ok _ (h k (by omega)).1 (h k (by omega)).2).1
    show 64 * pk b s k + cd (b (s + k)) < 64 ^ k * 64
    omega
theorem pk_inj {b c : Nat → Nat} {s t : Nat} : ∀ {k j : Nat}, (∀ i, i < k → b (s + i) < 256 ∧ al (b (s + i)) = true) → (∀ i, i < j → c (t + i) < 256 ∧ al (c (t + i)) = true) → pk b s k = pk c t j → k = j ∧ ∀ i, i < k → b (s + i) = c (t + i)
  | 0, 0, _, _, _ => ⟨rfl, fun i hi => absurd hi (Nat.not_lt_zero _)⟩
  | 0, j + 1, _, h2, h => by
    have := (cd_ok _ (h2 j (by omega)).1 (h2 j (by omega)).2).2.1
    have e : (0 : Nat) = 64 * pk c t j + cd (c (t + j)) := h
    omega
  | k + 1, 0, h1, _, h => by
    have := (cd_ok _ (h1 k (by omega)).1 (h1 k (by omega)).2).2.1
    have e : 64 * pk b s k + cd (b (s + k)) = 0 := h
    omega
  | k + 1, j + 1, h1, h2, h => by
    have a1 := (cd_ok _ (h1 k (by omega)).1 (h1 k (by omega)).2).1
    have a2 := (cd_ok _ (h2 j (by omega)).1 (h2 j (by omega)).2).1
    have e : 64 * pk b s k + cd (b (s + k)) = 64 * pk c t j + cd (c (t + j)) := h
    have e1 : pk b s k = pk c t j := by omega
    have e2 : cd (b (s + k)) = cd (c (t + j)) := by omega
    obtain ⟨g1, g2⟩ := pk_inj (fun i hi => h1 i (by omega)) (fun i hi => h2 i (by omega)) e1
    refine ⟨by omega, fun i hi => ?_⟩
    rcases Nat.lt_or_ge i k with q | q
    · exact g2 i q
    · have : i = k := by omega
      subst this
      rw [g1] at e2 ⊢
      subst g1
      exact cd_inj (h1 _ (by omega)).1 (h2 _ (by omega)).1 (h1 _ (by omega)).2 (h2 _ (by omega)).2 e2
theorem pk_cong {b c : Nat → Nat} {s t : Nat} : ∀ {k : Nat}, (∀ i, i < k → b (s + i) = c (t + i)) → pk b s k = pk c t k
  | 0, _ => rfl
  | k + 1, h => by
    show 64 * pk b s k + cd (b (s + k)) = 64 * pk c t k + cd (c (t + k))
    rw [pk_cong (fun i hi => h i (by omega)), h k (by omega)]
/-- equal packed words are equal words -/
theorem pk64 {b c : Nat → Nat} {s t k j : Nat} (hk : k ≤ 10) (hj : j ≤ 10) (h1 : ∀ i, i < k → b (s + i) < 256 ∧ al (b (s + i)) = true) (h2 : ∀ i, i < j → c (t + i) < 256 ∧ al (c (t + i)) = true) : Int64.ofNat (pk b s k) = Int64.ofNat (pk c t j) ↔ k = j ∧ ∀ i, i < k → b (s + i) = c (t + i) := by
  have l1 := pkw_lt h1
  have l2 := pkw_lt h2
  have m1 : 64 ^ k ≤ 64 ^ 10 := Nat.pow_le_pow_right (by decide) hk
  have m2 : 64 ^ j ≤ 64 ^ 10 := Nat.pow_le_pow_right (by decide) hj
  have m3 : (64 : Nat) ^ 10 = 2 ^ 60 := by decide
  constructor
  · intro h
    have h' : (Int64.ofNat (pk b s k)).toUInt64.toNat = (Int64.ofNat (pk c t j)).toUInt64.toNat := congrArg (fun v => v.toUInt64.toNat) h
    have e : ∀ v, v < 2 ^ 60 → (Int64.ofNat v).toUInt64.toNat = v := fun v hv => by
      show v % 2 ^ 64 = v
      omega
    rw [e _ (by omega), e _ (by omega)] at h'
    exact pk_inj h1 h2 h'
  · rintro ⟨rfl, h⟩
    rw [pk_cong h]
/-- the words of the language -/
def kb (j i : Nat) : Nat := ((txB j).getD i 0).toNatClampNeg
theorem kb_ok : ∀ j, j < 27 → (txB j).length ≤ 10 ∧ ∀ i, i < (txB j).length → kb j i < 256 ∧ al (kb j i) = true ∧ (txB j).getD i 0 = nI (kb j i) := by decide +kernel
