/-! One token, in both -/
theorem L34_word {x z : XS} {n : Nat} {b : Nat → Nat} (hT : TB x z n b) {p len t : Nat} (ht : t < 401) (hp : p + len ≤ n) (hl : letB (bv b n p) = true) (hr : ∀ i, i < len → Alv (bv b n (p + i)) = true) (he : Alv (bv b n (p + len)) = false) {w : XS} (h1 : w.1 0 2 = z.1 0 2) (h2 : ∀ j, w.1 1 j = z.1 1 j) :
    ∀ (m k fuel : Nat), k + m = len → m < fuel → f_X10_kindAt_L34 fuel (nI p) (nI t) (bv b n p) (nI (p + k)) w = if len ≤ 10 then f_X10_word (nI p) (nI len) (setI w 4 t (nI len)) else some (901, setI w 4 t (nI len))
  | _, _, 0, _, h => absurd h (Nat.not_lt_zero _)
  | 0, k, fuel + 1, hk, _ => by
    have hn := hT.1
    have hkl : k = len := by omega
    subst hkl
    have hA : (letB (bv b n (p + k)) || digB (bv b n (p + k))) = false := he
    rw [Bool.or_eq_false_iff] at hA
    have hb := by_ok hT (show p + k < 2 ^ 31 by omega) h1 h2
    rw [f_X10_kindAt_L34, hb, ob_some1, dig_ok, hA.2, obF, let_ok, hl, obT, hb, ob_some1, let_ok, hA.1, obF, inB_nI ht (by decide), og_tr, nI_clamp (by omega), let_ok, hl, obT]
    have e : nI (p + k) - nI p = nI k := by rw [show nI (p + k) = nI k + nI p by rw [nI_addN, Nat.add_comm], Int32.add_sub_cancel]
    dsimp only
    rw [e]
    by_cases g : k ≤ 10
    · rw [if_pos g, if_pos (show nI k ≤ 10 from (nI_leq (b := 10) (by omega) (by omega)).mpr g), let_ok, hl, obT]
      dsimp only
      cases f_X10_word (nI p) (nI k) (setI w 4 t (nI k)) <;> rfl
    · rw [if_neg g, if_neg (fun (q : nI k ≤ 10) => g ((nI_leq (b := 10) (by omega) (by omega)).mp q))]
  | m + 1, k, fuel + 1, hk, hf => by
    have hn := hT.1
    have hA : (letB (bv b n (p + k)) || digB (bv b n (p + k))) = true := hr k (by omega)
    have hb := by_ok hT (show p + k < 2 ^ 31 by omega) h1 h2
    rw [f_X10_kindAt_L34, hb, ob_some1, dig_ok]
    have ih := L34_word hT ht hp hl hr he h1 h2 m (k + 1) fuel (by omega) (by omega)
    have e : nI (p + k) + 1 = nI (p + (k + 1)) := nI_addN (p + k) 1
    cases hd : digB (bv b n (p + k)) with
    | true =>
      rw [obT, e]; exact ih
    | false =>
      rw [hd, Bool.or_false] at hA
      rw [obF, let_ok, hl, obT, hb, ob_some1, let_ok, hA, obT, e]; exact ih
theorem L34_num {x z : XS} {n : Nat} {b : Nat → Nat} (hT : TB x z n b) {p len t : Nat} (ht : t < 401) (hp : p + len ≤ n) (hl : letB (bv b n p) = false) (hr : ∀ i, i < len → digB (bv b n (p + i)) = true) (he : digB (bv b n (p + len)) = false) {w : XS} (h1 : w.1 0 2 = z.1 0 2) (h2 : ∀ j, w.1 1 j = z.1 1 j) :
    ∀ (m k fuel : Nat), k + m = len → m < fuel → f_X10_kindAt_L34 fuel (nI p) (nI t) (bv b n p) (nI (p + k)) w = if len ≤ 6 then some (41, setI w 4 t (nI len)) else some (901, setI w 4 t (nI len))
  | _, _, 0, _, h => absurd h (Nat.not_lt_zero _)
  | 0, k, fuel + 1, hk, _ => by
    have hn := hT.1
    have hkl : k = len := by omega
    subst hkl
    have hb := by_ok hT (show p + k < 2 ^ 31 by omega) h1 h2
    rw [f_X10_kindAt_L34, hb, ob_some1, dig_ok, he, obF, let_ok, hl, obF, inB_nI ht (by decide), og_tr, nI_clamp (by omega), let_ok, hl, obF]
    have e : nI (p + k) - nI p = nI k := by rw [show nI (p + k) = nI k + nI p by rw [nI_addN, Nat.add_comm], Int32.add_sub_cancel]
    dsimp only
    rw [e]
    by_cases g : k ≤ 6
    · rw [if_pos g, if_pos (show nI k ≤ 6 from (nI_leq (b := 6) (by omega) (by omega)).mpr g), let_ok, hl, obF]
    · rw [if_neg g, if_neg (fun (q : nI k ≤ 6) => g ((nI_leq (b := 6) (by omega) (by omega)).mp q))]
  | m + 1, k, fuel + 1, hk, hf => by
    have hn := hT.1
    have hA := hr k (by omega)
    have hb := by_ok hT (show p + k < 2 ^ 31 by omega) h1 h2
    have e : nI (p + k) + 1 = nI (p + (k + 1)) := nI_addN (p + k) 1
    rw [f_X10_kindAt_L34, hb, ob_some1, dig_ok, hA, obT, e]
    exact L34_num hT ht hp hl hr he h1 h2 m (k + 1) fuel (by omega) (by omega)
def sy1 (m : Nat) : Bool := decide (symO (nI m) = 229) && (decide (¬ nI m ≤ 0) && (decide (¬ 128 ≤ nI m) && (decide (¬ ixT 28 ((nI m).toUInt32 % 65536).toInt32 < 0) && decide ((nI m, 50 + nI m) ∈ KM))))
def sy2 (m : Nat) : Bool := decide (symO (nI m) = 270) && (decide (¬ nI m ≤ 0) && (decide (¬ 128 ≤ nI m) && (decide (¬ ixT 28 ((nI m).toUInt32 % 65536).toInt32 < 0) && decide ((nI m, 50 + nI m) ∈ KM))))
def sy3 (m : Nat) : Bool := decide (symO (nI m) ≠ 270) && (decide (symO (nI m) ≠ 229) && (decide (nI m ≤ 0) || (decide (128 ≤ nI m) || decide (ixT 28 ((nI m).toUInt32 % 65536).toInt32 < 0))))
theorem sy_a : sy1 60 = true ∧ sy1 62 = true := by decide +kernel
theorem sy_b : ∀ m, m < 256 → (al m || (decide (m = 60) || (decide (m = 62) || (sy2 m || sy3 m)))) = true := by decide +kernel
theorem sy1_ok {m : Nat} (h : sy1 m = true) : symO (nI m) = 229 ∧ ¬ nI m ≤ 0 ∧ ¬ 128 ≤ nI m ∧ ¬ ixT 28 ((nI m).toUInt32 % 65536).toInt32 < 0 ∧ (nI m, 50 + nI m) ∈ KM := by
  unfold sy1 at h
  simp only [Bool.and_eq_true] at h
  obtain ⟨a, b, c, d, e⟩ := h
  exact ⟨of_decide_eq_true a, of_decide_eq_true b, of_decide_eq_true c, of_decide_eq_true d, of_decide_eq_true e⟩
theorem sy2_ok {m : Nat} (h : sy2 m = true) : symO (nI m) = 270 ∧ ¬ nI m ≤ 0 ∧ ¬ 128 ≤ nI m ∧ ¬ ixT 28 ((nI m).toUInt32 % 65536).toInt32 < 0 ∧ (nI m, 50 + nI m) ∈ KM := by
  unfold sy2 at h
  simp only [Bool.and_eq_true] at h
  obtain ⟨a, b, c, d, e⟩ := h
  exact ⟨of_decide_eq_true a, of_decide_eq_true b, of_decide_eq_true c, of_decide_eq_true d, of_decide_eq_true e⟩
theorem sy3_ok {m : Nat} (h : sy3 m = true) : symO (nI m) ≠ 270 ∧ symO (nI m) ≠ 229 ∧ (nI m ≤ 0 ∨ 128 ≤ nI m ∨ ixT 28 ((nI m).toUInt32 % 65536).toInt32 < 0) := by
  unfold sy3 at h
  simp only [Bool.and_eq_true, Bool.or_eq_true] at h
  obtain ⟨a, b, c⟩ := h
  exact ⟨of_decide_eq_true a, of_decide_eq_true b, c.imp (fun g => of_decide_eq_true g) (fun g => g.imp (fun g => of_decide_eq_true g) (fun g => of_decide_eq_true g))⟩
theorem sgn_ok : ∀ m, m < 256 → ∀ a r, (a, r) ∈ KM → a = nI m → a ≠ 260 ∧ a ≠ 261 ∧ a ≠ 258 ∧ a ≠ 259 ∧ r < 900 := by
  intro m hm a r h e
  have key : ∀ p ∈ KM, p.1 < 256 → p.1 ≠ 260 ∧ p.1 ≠ 261 ∧ p.1 ≠ 258 ∧ p.1 ≠ 259 ∧ p.2 < 900 := by decide +kernel
  refine key (a, r) h ?_
  show a < 256
  rw [e]
  exact (nI_gt (b := 256) (by omega) (by omega)).mpr hm
/-- what both make of a token -/
def TK (b : Nat → Nat) (n p : Nat) (x y z w : XS) (t : Nat) (a r : Int32) : Prop :=
  (a, r) ∈ KM ∧ a ≠ 260 ∧ (∃ q v, NX x y q v ∧ (a ≠ 261 → r < 900 ∧ ∃ len, w.1 4 t = nI len ∧ 0 < len ∧ q = p + len ∧ p + len ≤ n ∧ (a = 258 → len ≤ 10 ∧ v = Int64.ofNat (pk b p len) ∧ ∀ i, i < len → al (b (p + i)) = true) ∧ (a = 259 → len ≤ 6 ∧ v = Int64.ofNat (nb b p len) ∧ ∀ i, i < len → digB (nI (b (p + i))) = true)))
theorem km256 : ((256 : Int32), (300 : Int32)) ∈ KM := by decide
theorem km257 : ((257 : Int32), (301 : Int32)) ∈ KM := by decide
theorem n256 : (256 : Int32) ≠ 260 := by decide
theorem n256' : ¬ (256 : Int32) = 258 := by decide
theorem n256'' : ¬ (256 : Int32) = 259 := by decide
theorem n257 : (257 : Int32) ≠ 260 := by decide
theorem n257' : ¬ (257 : Int32) = 258 := by decide
theorem n257'' : ¬ (257 : Int32) = 259 := by decide
theorem km261 : ((261 : Int32), (901 : Int32)) ∈ KM := by decide
theorem km259 : ((259 : Int32), (41 : Int32)) ∈ KM := by decide
theorem n261 : (261 : Int32) ≠ 260 := by decide
theorem n259 : (259 : Int32) ≠ 260 := by decide
theorem n259' : ¬ (259 : Int32) = 258 := by decide
theorem kw_km : ∀ k, k < 27 → (300 + nI k, nI k) ∈ KM ∧ 300 + nI k ≠ 260 ∧ 300 + nI k ≠ 261 ∧ 300 + nI k ≠ 258 ∧ 300 + nI k ≠ 259 ∧ nI k < 900 ∧ nI k ≠ 900 := by decide +kernel
theorem nI_sub {p k : Nat} : nI (p + k) - nI p = nI k := by rw [show nI (p + k) = nI k + nI p by rw [nI_addN, Nat.add_comm], Int32.add_sub_cancel]
theorem tk_word {x0 z0 x z : XS} {n : Nat} {b : Nat → Nat} (hT : TB x0 z0 n b) {p t : Nat} (ht : t < 401) (hpn : p < n) (hl : letB (bv b n p) = true) (x1 : x.1 1 1 = x0.1 1 1) (x2 : ∀ j, x.1 2 j = x0.1 2 j) (x3 : x.1 3 5 = nI p) (x6 : x.2 3 6 = 0) (hky : ∀ j, j < 27 → x.2 4 j = Int64.ofNat (pk (kb j) 0 (txB j).length)) (z1 : z.1 0 2 = z0.1 0 2) (z2 : ∀ j, z.1 1 j = z0.1 1 j) :
    ∃ r w, f_X10_kindAt_L34 2100 (nI p) (nI t) (bv b n p) (nI (p + 1)) z = some (r, w) ∧ (∀ q k, ¬ (q = 4 ∧ k = t) → w.1 q k = z.1 q k) ∧ r ≠ 900 ∧ TK b n p x (wordU x).2 z w t (wordU x).1 r := by
  have hn := hT.1
  have hTx : TB x z n b := ⟨hn, x1.trans hT.2.1, z1.trans hT.2.2.1, fun k hk => ⟨(hT.2.2.2 k hk).1, by rw [x2]; exact (hT.2.2.2 k hk).2.1, by rw [z2]; exact (hT.2.2.2 k hk).2.2⟩⟩
  obtain ⟨l, -, w2, w3, w4, w5⟩ := word_run (p := p) hTx (n - p) 0 x (by omega) (by omega) ⟨fun _ _ _ => rfl, x3, fun _ _ _ => rfl, x6⟩ (fun i hi => absurd hi (Nat.not_lt_zero _))
  have hleft : leftN x = n - p := by
    unfold leftN
    rw [hTx.2.1, x3, nI_toInt (by omega), nI_toInt (by omega)]; omega
  have hl0 : 0 < l := by
    rcases Nat.eq_zero_or_pos l with h | h
    · subst h
      have : Alv (bv b n p) = true := by unfold Alv; rw [hl]; rfl
      rw [Nat.add_zero, this] at w4; cases w4
    · exact h
  have hr := L34_word hTx ht w2 hl w3 w4 (w := z) rfl (fun _ => rfl) (l - 1) 1 2100 (by omega) (by omega)
  have hal : ∀ i, i < l → al (b (p + i)) = true := fun i hi => by have := w3 i hi; rw [bv_lt (by omega)] at this; exact this
  rw [hr]
  have hU : wordU x = (if l ≤ 10 then kwL (wordL (n - p) x) (Int64.ofNat (pk b p l)) 27 0 else 261, wordL (n - p) x) := by
    unfold wordU
    dsimp only
    rw [hleft, w5.2.1, x3, nI_sub, w5.2.2.2]
    by_cases g : l ≤ 10
    · rw [if_pos g, if_pos (show nI l ≤ 10 from (nI_leq (b := 10) (by omega) (by omega)).mpr g)]
    · rw [if_neg g, if_neg (fun (q : nI l ≤ 10) => g ((nI_leq (b := 10) (by omega) (by omega)).mp q))]
  rw [hU]
  have hfr : ∀ q k, ¬ (q = 4 ∧ k = t) → (setI z 4 t (nI l)).1 q k = z.1 q k := fun q k a => by rw [rdI, if_neg a]
  by_cases g : l ≤ 10
  · rw [if_pos g, if_pos g]
    obtain ⟨r, e1, e2⟩ := word_both (y := wordL (n - p) x) (z := setI z 4 t (nI l)) (b := b) (p := p) g (by omega) (fun i hi => ⟨⟨(hT.2.2.2 (p + i) (by omega)).1, hal i hi⟩, by rw [rdI_ne (by decide), z2]; exact (hT.2.2.2 (p + i) (by omega)).2.2⟩) (fun j hj => by rw [w5.2.2.1 4 j (by omega)]; exact hky j hj) 27 0 402 (by omega) (by omega)
    have e1' : f_X10_word (nI p) (nI l) (setI z 4 t (nI l)) = some (r, setI z 4 t (nI l)) := e1
    rw [e1']
    refine ⟨r, _, rfl, hfr, ?_, ?_⟩
    · rcases e2 with ⟨-, h⟩ | ⟨k, hk, -, h⟩
      · rw [h]; decide
      · rw [h]; exact (kw_km k hk).2.2.2.2.2.2
    · dsimp only
      rcases e2 with ⟨h1, h2⟩ | ⟨k, hk, h1, h2⟩
      · rw [h1, h2]
        exact ⟨by decide, by decide, p + l, _, w5, fun _ => ⟨by decide, l, rdI_eq, hl0, rfl, w2, fun _ => ⟨g, rfl, hal⟩, fun h => absurd h (by decide)⟩⟩
      · obtain ⟨k1, k2, k3, k4, k5, k6, k7⟩ := kw_km k hk
        rw [h1, h2]
        exact ⟨k1, k2, p + l, _, w5, fun _ => ⟨k6, l, rdI_eq, hl0, rfl, w2, fun h => absurd h k4, fun h => absurd h k5⟩⟩
  · rw [if_neg g, if_neg g]
    exact ⟨901, _, rfl, hfr, by decide, km261, n261, p + l, _, w5, fun h => absurd rfl h⟩
theorem tk_num {x0 z0 x z : XS} {n : Nat} {b : Nat → Nat} (hT : TB x0 z0 n b) {p t : Nat} (ht : t < 401) (hpn : p < n) (hl : letB (bv b n p) = false) (hd : digB (bv b n p) = true) (x1 : x.1 1 1 = x0.1 1 1) (x2 : ∀ j, x.1 2 j = x0.1 2 j) (x3 : x.1 3 5 = nI p) (x6 : x.2 3 6 = 0) (z1 : z.1 0 2 = z0.1 0 2) (z2 : ∀ j, z.1 1 j = z0.1 1 j) :
    ∃ r w, f_X10_kindAt_L34 2100 (nI p) (nI t) (bv b n p) (nI (p + 1)) z = some (r, w) ∧ (∀ q k, ¬ (q = 4 ∧ k = t) → w.1 q k = z.1 q k) ∧ r ≠ 900 ∧ TK b n p x (numU x).2 z w t (numU x).1 r := by
  have hn := hT.1
  have hTx : TB x z n b := ⟨hn, x1.trans hT.2.1, z1.trans hT.2.2.1, fun k hk => ⟨(hT.2.2.2 k hk).1, by rw [x2]; exact (hT.2.2.2 k hk).2.1, by rw [z2]; exact (hT.2.2.2 k hk).2.2⟩⟩
  obtain ⟨l, -, w2, w3, w4, w5⟩ := num_run (p := p) hTx (n - p) 0 x (by omega) (by omega) ⟨fun _ _ _ => rfl, x3, fun _ _ _ => rfl, x6⟩ (fun i hi => absurd hi (Nat.not_lt_zero _))
  have hleft : leftN x = n - p := by
    unfold leftN
    rw [hTx.2.1, x3, nI_toInt (by omega), nI_toInt (by omega)]; omega
  have hl0 : 0 < l := by
    rcases Nat.eq_zero_or_pos l with h | h
    · subst h
      rw [Nat.add_zero, hd] at w4; cases w4
    · exact h
  have hr := L34_num hTx ht w2 hl w3 w4 (w := z) rfl (fun _ => rfl) (l - 1) 1 2100 (by omega) (by omega)
  have hal : ∀ i, i < l → digB (nI (b (p + i))) = true := fun i hi => by have := w3 i hi; rw [bv_lt (by omega)] at this; exact this
  rw [hr]
  have hU : numU x = (if l ≤ 6 then 259 else 261, numL (n - p) x) := by
    unfold numU
    dsimp only
    rw [hleft, w5.2.1, x3, nI_sub]
    by_cases g : l ≤ 6
    · rw [if_pos g, if_pos (show nI l ≤ 6 from (nI_leq (b := 6) (by omega) (by omega)).mpr g)]
    · rw [if_neg g, if_neg (fun (q : nI l ≤ 6) => g ((nI_leq (b := 6) (by omega) (by omega)).mp q))]
  rw [hU]
  have hfr : ∀ q k, ¬ (q = 4 ∧ k = t) → (setI z 4 t (nI l)).1 q k = z.1 q k := fun q k a => by rw [rdI, if_neg a]
  by_cases g : l ≤ 6
  · rw [if_pos g, if_pos g]
    exact ⟨41, _, rfl, hfr, by decide, km259, n259, p + l, _, w5, fun _ => ⟨by decide, l, rdI_eq, hl0, rfl, w2, fun h => absurd h n259', fun _ => ⟨g, rfl, hal⟩⟩⟩
  · rw [if_neg g, if_neg g]
    exact ⟨901, _, rfl, hfr, by decide, km261, n261, p + l, _, w5, fun h => absurd rfl h⟩
def sgG (v : Int32) (t : Nat) (w : XS) : Option (Int32 × XS) := if v ≤ 0 then some (901, setI w 4 t 1) else if 128 ≤ v then some (901, setI w 4 t 1) else if ixT 28 ((v).toUInt32 % 65536).toInt32 < 0 then some (901, setI w 4 t 1) else some (50 + v, setI w 4 t 1)
def loG (v : Int32) (p t : Nat) (z : XS) : Option (Int32 × XS) := ob (f_X10_byteOf (nI (p + 1)) z) (fun u143 => (if u143.1 = 61 then ((if v = 60 then some (300, (setI u143.2 4 t 2)) else some (301, (setI u143.2 4 t 2)))) else sgG v t u143.2))
theorem tk_sym {x0 z0 x z : XS} {n : Nat} {b : Nat → Nat} (hT : TB x0 z0 n b) {p t : Nat} (hpn : p < n) (hl : al (b p) = false) (x1 : x.1 1 1 = x0.1 1 1) (x2 : ∀ j, x.1 2 j = x0.1 2 j) (x3 : x.1 3 5 = nI p) (x6 : x.2 3 6 = 0) (z1 : z.1 0 2 = z0.1 0 2) (z2 : ∀ j, z.1 1 j = z0.1 1 j) :
    ∃ r w, (if bv b n p = 60 then loG (bv b n p) p t z else if bv b n p = 62 then loG (bv b n p) p t z else sgG (bv b n p) t z) = some (r, w) ∧ (∀ q k, ¬ (q = 4 ∧ k = t) → w.1 q k = z.1 q k) ∧ r ≠ 900 ∧ TK b n p x (symU x (bv b n p)).2 z w t (symU x (bv b n p)).1 r := by
  have hn := hT.1
  have hb := (hT.2.2.2 p hpn).1
  have hv : bv b n p = nI (b p) := bv_lt hpn
  have hfr : ∀ v q k, ¬ (q = 4 ∧ k = t) → (setI z 4 t v).1 q k = z.1 q k := fun v q k a => by rw [rdI, if_neg a]
  have e1 : nI p + 1 = nI (p + 1) := nI_addN p 1
  have hx1 : NX x (setI x 3 5 (nI (p + 1))) (p + 1) 0 := ⟨fun i k g => by rw [rdI, if_neg g], rdI_eq, fun _ _ _ => rfl, x6⟩
  have hx2 : NX x (setI (setI x 3 5 (nI (p + 1))) 3 5 (nI (p + 2))) (p + 2) 0 := ⟨fun i k g => by rw [rdI, if_neg g, rdI, if_neg g], rdI_eq, fun _ _ _ => rfl, x6⟩
  have hby := by_ok hT (show p + 1 < 2 ^ 31 by omega) z1 z2
  have hat : atF (setI x 3 5 (nI (p + 1))) (nI (p + 1)) = bv b n (p + 1) := at_ok hT (by omega) ((rdI_ne (by decide)).trans x1) (fun j => (rdI_ne (by decide)).trans (x2 j))
  have hsg : ∀ {m : Nat}, m = b p → (¬ nI m ≤ 0 ∧ ¬ 128 ≤ nI m ∧ ¬ ixT 28 ((nI m).toUInt32 % 65536).toInt32 < 0 ∧ (nI m, 50 + nI m) ∈ KM) → ∃ r w, sgG (nI m) t z = some (r, w) ∧ (∀ q k, ¬ (q = 4 ∧ k = t) → w.1 q k = z.1 q k) ∧ r ≠ 900 ∧ TK b n p x (setI x 3 5 (nI (p + 1))) z w t (nI m) r := by
    intro m hm ⟨g1, g2, g3, g4⟩
    obtain ⟨k1, k2, k3, k4, k5⟩ := sgn_ok m (by omega) _ _ g4 rfl
    unfold sgG
    rw [if_neg g1, if_neg g2, if_neg g3]
    refine ⟨_, _, rfl, hfr 1, fun h => ?_, g4, k1, p + 1, 0, hx1, fun _ => ⟨k5, 1, rdI_eq, by omega, rfl, by omega, fun h => absurd h k3, fun h => absurd h k4⟩⟩
    rw [h] at k5; exact absurd k5 (by decide)
  have hlo : ∀ {m : Nat}, m = b p → m = 60 ∨ m = 62 → ∃ r w, loG (nI m) p t z = some (r, w) ∧ (∀ q k, ¬ (q = 4 ∧ k = t) → w.1 q k = z.1 q k) ∧ r ≠ 900 ∧ TK b n p x (symU x (nI m)).2 z w t (symU x (nI m)).1 r := by
    intro m hm h62
    obtain ⟨s1, s2, s3, s4, s5⟩ := sy1_ok (m := m) (by rcases h62 with h | h <;> rw [h]; exact sy_a.1; exact sy_a.2)
    unfold loG symU
    rw [hby, ob_some1, s1, x3, e1]
    dsimp only
    rw [if_neg (show ¬ (229 : Int) = 270 by decide), if_pos rfl, rdI_eq, hat]
    by_cases g : bv b n (p + 1) = 61
    · have hp1 : p + 1 < n := by
        rcases Nat.lt_or_ge (p + 1) n with h | h
        · exact h
        · rw [bv_ge h] at g; exact absurd g (by decide)
      rw [if_pos g, if_pos g, show nI (p + 1) + 1 = nI (p + 2) from nI_addN (p + 1) 1]
      rcases h62 with h | h
      · subst h
        rw [if_pos (show nI 60 = 60 from rfl), if_pos (show nI 60 = 60 from rfl)]
        exact ⟨300, _, rfl, hfr 2, by decide, km256, n256, p + 2, 0, hx2, fun _ => ⟨by decide, 2, rdI_eq, by decide, rfl, hp1, fun h => absurd h n256', fun h => absurd h n256''⟩⟩
      · subst h
        rw [if_neg (show ¬ nI 62 = 60 by decide), if_neg (show ¬ nI 62 = 60 by decide)]
        exact ⟨301, _, rfl, hfr 2, by decide, km257, n257, p + 2, 0, hx2, fun _ => ⟨by decide, 2, rdI_eq, by decide, rfl, hp1, fun h => absurd h n257', fun h => absurd h n257''⟩⟩
    · rw [if_neg g, if_neg g]
      exact hsg hm ⟨s2, s3, s4, s5⟩
  have hall := sy_b (b p) hb
  rw [hl, Bool.false_or] at hall
  rw [hv]
  by_cases g60 : b p = 60
  · rw [if_pos (show nI (b p) = 60 by rw [g60]; rfl)]
    exact hlo rfl (Or.inl g60)
  · rw [decide_eq_false g60, Bool.false_or] at hall
    rw [if_neg (fun (q : nI (b p) = 60) => g60 ((nI_inj (b := 60) (by omega) (by omega)).mp q))]
    by_cases g62 : b p = 62
    · rw [if_pos (show nI (b p) = 62 by rw [g62]; rfl)]
      exact hlo rfl (Or.inr g62)
    · rw [decide_eq_false g62, Bool.false_or, Bool.or_eq_true] at hall
      rw [if_neg (fun (q : nI (b p) = 62) => g62 ((nI_inj (b := 62) (by omega) (by omega)).mp q))]
      rcases hall with h | h
      · obtain ⟨s1, s2, s3, s4, s5⟩ := sy2_ok h
        have hU : symU x (nI (b p)) = (nI (b p), setI x 3 5 (nI (p + 1))) := by unfold symU; dsimp only; rw [s1, if_pos rfl, x3, e1]
        rw [hU]
        exact hsg rfl ⟨s2, s3, s4, s5⟩
      · obtain ⟨s1, s2, s3⟩ := sy3_ok h
        have hU : symU x (nI (b p)) = (261, setI x 3 5 (nI (p + 1))) := by unfold symU; dsimp only; rw [if_neg s1, if_neg s2, x3, e1]
        have hG : sgG (nI (b p)) t z = some (901, setI z 4 t 1) := by
          unfold sgG
          rcases s3 with h | h | h
          · rw [if_pos h]
          · rw [if_pos h]; split <;> rfl
          · rw [if_pos h]; split
            · rfl
            · split <;> rfl
        rw [hU, hG]
        exact ⟨901, _, rfl, hfr 1, by decide, km261, n261, p + 1, _, hx1, fun h => absurd rfl h⟩
theorem tok_both {x0 z0 x z : XS} {n : Nat} {b : Nat → Nat} (hT : TB x0 z0 n b) {p t : Nat} (ht : t < 401) (hp : p ≤ n) (x1 : x.1 1 1 = x0.1 1 1) (x2 : ∀ j, x.1 2 j = x0.1 2 j) (x3 : x.1 3 5 = nI p) (x4 : x.1 3 4 = nI t) (x6 : x.2 3 6 = 0) (hky : ∀ j, j < 27 → x.2 4 j = Int64.ofNat (pk (kb j) 0 (txB j).length)) (z1 : z.1 0 2 = z0.1 0 2) (z2 : ∀ j, z.1 1 j = z0.1 1 j) :
    ∃ r w, f_X10_kindAt (nI p) (nI t) z = some (r, w) ∧ (∀ q k, ¬ (q = 4 ∧ k = t) → w.1 q k = z.1 q k) ∧ (p = n → tokU x = (260, x) ∧ r = 900) ∧ (p < n → r ≠ 900 ∧ (t = 400 → tokU x = (261, x)) ∧ (t < 400 → TK b n p x (tokU x).2 z w t (tokU x).1 r)) := by
  have hn := hT.1
  have hb0 := by_ok hT (show p < 2 ^ 31 by omega) z1 z2
  have ha0 := at_ok hT (show p < 2 ^ 31 by omega) x1 x2
  unfold f_X10_kindAt
  rw [hb0, ob_some1]
  dsimp only
  rcases Nat.lt_or_ge p n with hpn | hpn
  · have hbp := hT.2.2.2 p hpn
    have hv : bv b n p = nI (b p) := bv_lt hpn
    have hnm : bv b n p ≠ -1 := by rw [hv]; exact nI_nm1 (by omega)
    have hn0 : ¬ bv b n p < 0 := by rw [hv]; exact nI_nn (by omega)
    have tk400 : t = 400 → tokU x = (261, x) := by
      intro h
      unfold tokU
      dsimp only
      rw [x3, ha0, if_neg hn0, x4, h, if_pos (show (400 : Int32) ≤ nI 400 by decide)]
    have tkn : t < 400 → tokU x = if letB (bv b n p) then wordU x else if digB (bv b n p) then numU x else symU x (bv b n p) := by
      intro h
      unfold tokU
      dsimp only
      rw [x3, ha0, if_neg hn0, x4, if_neg (fun (q : (400 : Int32) ≤ nI t) => by have := (nI_leq (a := 400) (by omega) (by omega)).mp q; omega)]
    have e1 : nI p + 1 = nI (p + 1) := nI_addN p 1
    rw [if_neg hnm, let_ok]
    by_cases hl : letB (bv b n p) = true
    · rw [if_pos hl] at tkn
      rw [hl, obT, e1]
      obtain ⟨r, w, f1, f2, f3, f4⟩ := tk_word hT ht hpn hl x1 x2 x3 x6 hky z1 z2
      exact ⟨r, w, f1, f2, fun h => absurd h (by omega), fun _ => ⟨f3, tk400, fun h => by rw [tkn h]; exact f4⟩⟩
    · have hl' : letB (bv b n p) = false := by cases h : letB (bv b n p) with
        | true => exact absurd h hl
        | false => rfl
      rw [if_neg hl] at tkn
      rw [hl', obF, dig_ok]
      by_cases hd : digB (bv b n p) = true
      · rw [if_pos hd] at tkn
        rw [hd, obT, e1]
        obtain ⟨r, w, f1, f2, f3, f4⟩ := tk_num hT ht hpn hl' hd x1 x2 x3 x6 z1 z2
        exact ⟨r, w, f1, f2, fun h => absurd h (by omega), fun _ => ⟨f3, tk400, fun h => by rw [tkn h]; exact f4⟩⟩
      · have hd' : digB (bv b n p) = false := by cases h : digB (bv b n p) with
          | true => exact absurd h hd
          | false => rfl
        rw [if_neg hd] at tkn
        rw [hd', obF, e1, inB_nI ht (by decide)]
        simp only [og_tr, nI_clamp (show t < 2 ^ 31 by omega)]
        have hal : al (b p) = false := by unfold al; rw [← hv, hl', hd']; rfl
        obtain ⟨r, w, f1, f2, f3, f4⟩ := tk_sym (t := t) hT hpn hal x1 x2 x3 x6 z1 z2
        exact ⟨r, w, f1, f2, fun h => absurd h (by omega), fun _ => ⟨f3, tk400, fun h => by rw [tkn h]; exact f4⟩⟩
  · have hpe : p = n := by omega
    subst hpe
    rw [bv_ge (Nat.le_refl _), if_pos rfl]
    refine ⟨900, z, rfl, fun _ _ _ => rfl, fun _ => ⟨?_, rfl⟩, fun h => absurd h (by omega)⟩
    unfold tokU
    dsimp only
    rw [x3, ha0, bv_ge (Nat.le_refl _), if_pos (by decide)]
