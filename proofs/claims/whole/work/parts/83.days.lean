/-! Orders and days: both pass them alike -/
def CodeR (x z : XS) (F S e : Nat) : Nat → Nat → Nat → List Bool → Prop
  | 0, _, nx, T => nx = e ∧ T = [true]
  | n + 1, pl, nx, T => ∃ nx' T', nx < nx' ∧ nx' ≤ e ∧ T'.length ≤ 400 ∧ ItX x z F S pl nx nx' T T' ∧ CodeR x z F S e n (pl + 1) nx' T'
theorem ItX_of {x z y w : XS} {F S pl nx nx' : Nat} {T T' : List Bool} (h1 : ∀ q k, q = 31 ∨ q = 32 ∨ q = 33 → y.1 q k = x.1 q k) (h2 : ∀ k, w.1 19 k = z.1 19 k) (h : ItX x z F S pl nx nx' T T') : ItX y w F S pl nx nx' T T' := by
  unfold ItX at h ⊢
  simp only [h1 31 _ (by simp), h1 32 _ (by simp), h1 33 _ (by simp), h2]
  exact h
theorem CodeR_of {x z y w : XS} {F S e : Nat} (h1 : ∀ q k, q = 31 ∨ q = 32 ∨ q = 33 → y.1 q k = x.1 q k) (h2 : ∀ k, w.1 19 k = z.1 19 k) : ∀ {n pl nx : Nat} {T : List Bool}, CodeR x z F S e n pl nx T → CodeR y w F S e n pl nx T
  | 0, _, _, _, h => h
  | n + 1, _, _, _, ⟨nx', T', a1, a2, a3, a4, a5⟩ => ⟨nx', T', a1, a2, a3, ItX_of h1 h2 a4, CodeR_of h1 h2 a5⟩
theorem seq_ok {R : XS → XS → Prop} (hR : Stab R) {c : Nat} (hc : isC c) {F S : Nat} {l r : Nat → Nat} {m e : Nat} (he : e ≤ 800) : ∀ (n pl nx : Nat) (T : List Bool) (x z : XS) (fuel : Nat), BkC R c x z F S l r m → JS T x z → pl + n ≤ 400 → nx ≤ e → CodeR x z F S e n pl nx T → e - nx < fuel →
    ∃ z', coL (nI e) fuel (nI nx) (tpI T.length) z = some z' ∧ BkC R c (recL c n (nI pl) x) z' F S l r m ∧ JS [true] (recL c n (nI pl) x) z'
  | _, _, _, _, _, _, 0, _, _, _, _, _, h => absurd h (Nat.not_lt_zero _)
  | 0, pl, nx, T, x, z, fuel + 1, hB, hJ, _, _, ⟨h1, h2⟩, _ => by
    subst h2
    rw [coL, h1, if_pos ((nI_leq (by omega) (by omega)).mpr (Nat.le_refl e))]
    exact ⟨z, rfl, hB, hJ⟩
  | n + 1, pl, nx, T, x, z, fuel + 1, hB, hJ, hpl, hnx, ⟨nx', T', a1, a2, a3, a4, a5⟩, hf => by
    obtain ⟨z1, e1, e2, e3, e4⟩ := rec_ok hR hc hB hJ (show pl < 400 by omega) (show nx' ≤ 800 by omega) a3 a4
    have hne : ¬ nI e ≤ nI nx := fun h => by have := (nI_leq (by omega) (by omega)).mp h; omega
    rw [e1 fuel (nI e) hne, recL, show nI pl + 1 = nI (pl + 1) from nI_addN pl 1]
    exact seq_ok hR hc he n (pl + 1) nx' T' _ z1 fuel e2 e3 (by omega) a2 (CodeR_of (fun q k hq => rec_1 (by unfold jq; omega)) e4 a5) (by omega)
def OrdR (x z : XS) (F S j : Nat) : Prop := ∃ a n s e k, x.1 29 j = nI a ∧ x.1 30 j = nI (a + n) ∧ a + n ≤ 400 ∧ z.1 17 j = nI s ∧ z.1 18 j = nI e ∧ s ≤ e ∧ e ≤ 800 ∧ ((n = 0 ∧ s = e) ∨ (0 < n ∧ CodeR x z F S e n a s [])) ∧ k < S ∧ x.1 28 j = nI k ∧ z.1 16 j = nI k ∧ (x.1 27 j = 1 ↔ ¬ z.1 15 j = 12)
theorem OrdR_of {x z y w : XS} {F S j : Nat} (h1 : ∀ q k, 27 ≤ q ∧ q ≤ 33 → y.1 q k = x.1 q k) (h2 : ∀ q k, 15 ≤ q ∧ q ≤ 19 → w.1 q k = z.1 q k) (h : OrdR x z F S j) : OrdR y w F S j := by
  obtain ⟨a, n, s, e, k, b1, b2, b3, b4, b5, b6, b7, b8, b9, b10, b11, b12⟩ := h
  refine ⟨a, n, s, e, k, by rw [h1 _ _ (by omega)]; exact b1, by rw [h1 _ _ (by omega)]; exact b2, b3, by rw [h2 _ _ (by omega)]; exact b4, by rw [h2 _ _ (by omega)]; exact b5, b6, b7, ?_, b9, by rw [h1 _ _ (by omega)]; exact b10, by rw [h2 _ _ (by omega)]; exact b11, by rw [h1 _ _ (by omega), h2 _ _ (by omega)]; exact b12⟩
  exact b8.imp id (fun ⟨p, q⟩ => ⟨p, CodeR_of (fun q k hq => h1 q k (by omega)) (fun k => h2 19 k (by omega)) q⟩)
theorem due_ok {R : XS → XS → Prop} (hR : Stab R) {c : Nat} (hc : isC c) {F S : Nat} {l r : Nat → Nat} {m j : Nat} (hj : j < 16) {x z : XS} (hB : BkC R c x z F S l r m) (hO : OrdR x z F S j) : ∃ z', mdueO (nI j) z = some ((dueU c (nI j) x).1, z') ∧ BkC R c (dueU c (nI j) x).2 z' F S l r m ∧ ∀ q k, q11 q → z'.1 q k = z.1 q k := by
  obtain ⟨a, n, s, e, k, b1, b2, b3, b4, b5, b6, b7, b8, -⟩ := hO
  unfold mdueO dueU
  rw [inB_nI (show j < 17 by omega) (by decide), if_pos rfl, nI_clamp (by omega), b4, b5, entI_nI hj (by decide), entI_nI hj (by decide), b1, b2]
  rcases b8 with ⟨h1, h2⟩ | ⟨h1, h2⟩
  · rw [if_pos (by rw [h2]), if_pos ((nI_leq (by omega) (by omega)).mpr (by omega))]
    exact ⟨z, rfl, hB, fun _ _ _ => rfl⟩
  · have hse : s < e := by
      cases n with
      | zero => omega
      | succ n => obtain ⟨nx', T', a1, a2, -⟩ := h2; omega
    rw [if_neg (fun h => by have := (nI_inj (by omega) (by omega)).mp h; omega), if_neg (fun h => by have := (nI_leq (by omega) (by omega)).mp h; omega)]
    have hx : ∀ q k, q ≠ 44 → q ≠ 45 → (setI x 44 4 0).1 q k = x.1 q k := fun q k h _ => rdI_ne h
    have hB1 : BkC R c (setI x 44 4 0) z F S l r m := hB.st hR hc hx rfl
    have hJ1 : JS [] (setI x 44 4 0) z := ⟨Nat.zero_le _, rdI_eq, trivial⟩
    obtain ⟨z', e1, e2, e3⟩ := seq_ok hR hc b7 n a s [] (setI x 44 4 0) z 801 hB1 hJ1 b3 b6 (CodeR_of (fun q k hq => hx q k (by omega) (by omega)) (fun _ => rfl) h2) (by omega)
    have e1' : coL (nI e) 801 (nI s) (-1) z = some z' := e1
    have en : ((nI (a + n)).toInt - (nI a).toInt).toNat = n := by rw [nI_toInt (by omega), nI_toInt (by omega)]; omega
    rw [e1', en]
    dsimp only
    obtain ⟨p1, p2, p3⟩ := JS_pop e3
    refine ⟨z', ?_, e2.st hR hc (fun q k h1 h2 => pop_1 h1) pop_2, fun q k hq => co_1 hq _ _ _ _ _ e1'⟩
    have p1' : (popF (recL c n (nI a) (setI x 44 4 0))).1 = z'.1 7 0 := p1
    rw [p1']
    have p2' := p2 rfl
    rw [p1] at p2'
    have : decide (z'.1 7 0 = 1) = decide (¬ z'.1 7 0 = 0) := by
      rcases (show z'.1 7 0 = 0 ∨ z'.1 7 0 = 1 from p2') with h | h <;> rw [h] <;> decide
    rw [this]
theorem BkC.move {R : XS → XS → Prop} (hR : Stab R) {c : Nat} (hc : isC c) {x z y w : XS} {F S : Nat} {l r : Nat → Nat} {m m' : Nat} (h : BkC R c x z F S l r m) (hx : ∀ q k, q ≠ c → y.1 q k = x.1 q k) (hx2 : y.2 = x.2) (hz : ∀ q k, q ≠ 0 ∨ (k ≠ 13 ∧ k ≠ 14 ∧ k ≠ 15) → w.1 q k = z.1 q k) (hm : m' < 2 ^ S) (e1 : y.1 c 1 = nI m') (e2 : w.1 0 15 = nI m') (e3 : y.1 c 0 = w.1 0 13) (e4 : y.1 c 2 = w.1 0 14) : BkC R c y w F S l r m' := by
  unfold isC at hc
  have o : ∀ q k, q ≠ 46 → q ≠ 47 → (ovr c y).1 q k = (ovr c x).1 q k := fun q k h1 h2 => by rw [ovr_1 h1, ovr_1 h1]; exact hx q k (by omega)
  have h' : Bk R (ovr c x) z F S l r m := h
  refine ⟨BkX_of (fun q k hq => o q k (by omega) (by omega)) h'.bx, BkZ_of (fun q k hq => hz q k (by omega)) h'.bz, PeaB_of (o _ _ (by decide) (by decide)) (fun k => by show y.2 43 k = x.2 43 k; rw [hx2]) h'.pea, fun k hk => ?_, hm, ovr_c.trans e1, e2, ovr_c.trans e3, ovr_c.trans e4, ?_, ?_, ?_, ?_, hR h'.rest (fun q hq k => ⟨o q k (by omega) (by omega), by show y.2 q k = x.2 q k; rw [hx2]⟩) ⟨fun q k hq => hz q k (by omega), hz _ _ (by omega), hz _ _ (by omega)⟩⟩
  · rw [kind_eq (z := z) (fun i => hz 12 i (by omega)), o _ _ (by decide) (by decide), o _ _ (by decide) (by decide), o _ _ (by decide) (by decide), hz _ _ (by omega), hz _ _ (by omega)]
    exact h'.kin k hk
  · rw [o _ _ (by decide) (by decide)]; exact h'.web.imp id (WebC_of (fun q k hq => o q k (by omega) (by omega)))
  · rw [o _ _ (by decide) (by decide)]; exact h'.land.imp id (LandC_of (o _ _ (by decide) (by decide)) (fun k => by show y.2 41 k = x.2 41 k; rw [hx2]))
  · rw [hz _ _ (by omega)]; exact h'.fol.imp id (FolC_of (fun k => hz _ _ (by omega)) (hz _ _ (by omega)))
  · rw [hz _ _ (by omega)]; exact h'.look.imp id (LookC_of (fun k => hz _ _ (by omega)) (fun k hk => hz _ _ (by omega)))
theorem set_same {z : XS} {q k : Nat} {v : Int32} (h : z.1 q k = v) : setI z q k v = z := by
  refine Prod.ext (funext fun i => funext fun j => ?_) rfl
  show (if i = q ∧ j = k then v else z.1 i j) = z.1 i j
  by_cases e : i = q ∧ j = k
  · rw [if_pos e, e.1, e.2, h]
  · rw [if_neg e]
theorem or_nI {m k : Nat} (hm : m < 2 ^ 20) (hk : k < 20) : (bit (nI m) k = true → (nI m ||| ((1 : Int32) <<< (nI k &&& 31))) = nI m) ∧ (bit (nI m) k = false → (nI m &&& (((1 : Int32) <<< (nI k &&& 31)) ^^^ (-1))) = nI m) := by
  refine ⟨fun hb => ?_, fun hb => (without_same (by omega)).mpr hb⟩
  apply bit_ext
  intro j hj
  rw [bit_or, bit_shl1 (by omega) hj]
  by_cases e : j = k
  · rw [e, hb]; rfl
  · rw [decide_eq_false e, Bool.or_false]
theorem flip_ne {m k : Nat} (hm : m < 2 ^ 20) (hk : k < 20) : nI (m ^^^ 2 ^ k) ≠ nI m := fun e => by
  have h := xor_bit hm hk k
  rw [e, decide_eq_true rfl] at h
  cases hb : bit (nI m) k <;> rw [hb] at h <;> cases h
theorem mstep_v {j : Nat} (hj : j < 16) {z u : XS} {v : Int32} (hd : mdueO (nI j) z = some (true, u)) (hv : (if u.1 15 j = 12 then u.1 0 15 &&& (((1 : Int32) <<< (u.1 16 j &&& 31)) ^^^ (-1)) else u.1 0 15 ||| ((1 : Int32) <<< (u.1 16 j &&& 31))) = v) : mstepO j z = some (if v = u.1 0 15 then setI u 0 15 v else setI (setI u 0 15 v) 0 14 ((setI u 0 15 v).1 0 14 + 1)) := by
  have hm : mordF (nI j) u = (decide (¬ v = u.1 0 15), setI u 0 15 v) := by
    unfold mordF
    rw [nI_clamp (by omega), hv]
    dsimp only
    rw [rdI_eq]
  unfold mstepO
  rw [hd]
  dsimp only
  rw [if_pos rfl, inB_nI hj (by decide), if_pos rfl, hm]
  by_cases h : v = u.1 0 15
  · rw [if_pos h]
    show some (if decide (¬ v = u.1 0 15) = true then _ else _) = _
    rw [if_neg (by simp [h])]
  · rw [if_neg h]
    show some (if decide (¬ v = u.1 0 15) = true then _ else _) = _
    rw [if_pos (by simp [h])]
theorem mstep_n {j : Nat} {z u : XS} (hd : mdueO (nI j) z = some (false, u)) : mstepO j z = some u := by
  unfold mstepO
  rw [hd]
  dsimp only
  rw [if_neg (by decide)]
theorem step_ok {R : XS → XS → Prop} (hR : Stab R) {c : Nat} (hc : isC c) {F S : Nat} {l r : Nat → Nat} {m j : Nat} (hj : j < 16) {x z : XS} (hB : BkC R c x z F S l r m) (hO : OrdR x z F S j) : ∃ z' m', mstepO j z = some z' ∧ BkC R c (ordF c j x) z' F S l r m' ∧ ∀ q k, q11 q → z'.1 q k = z.1 q k := by
  obtain ⟨z1, d1, d2, d3⟩ := due_ok hR hc hj hB hO
  have hc' := hc
  unfold isC at hc'
  unfold ordF
  generalize hb : (dueU c (nI j) x).1 = b at d1
  cases b with
  | false => rw [if_neg (by decide)]; exact ⟨z1, m, mstep_n d1, d2, d3⟩
  | true =>
    rw [if_pos rfl]
    have hO1 : OrdR (dueU c (nI j) x).2 z1 F S j := OrdR_of (fun q k hq => due_1 (by unfold jq; omega)) (fun q k hq => d3 q k (by unfold q11; omega)) hO
    generalize (dueU c (nI j) x).2 = x1 at d2 hO1
    obtain ⟨a, n, s, e, k, -, -, -, -, -, -, -, -, k1, k2, k3, k4⟩ := hO1
    have hS := d2.x1.2.1
    have hm := small_m hS (Bk.lm d2)
    have hs := d2.s1
    have hzs := Bk.zs d2
    rw [entI_nI hj (by decide), entI_nI hj (by decide), k2]
    unfold changeF
    rw [hs, hasB_bit (show k < 32 by omega)]
    dsimp only
    have hflip : BkC R c (setI (setI x1 c 1 (nI (m ^^^ 2 ^ k))) c 2 ((setI x1 c 1 (nI (m ^^^ 2 ^ k))).1 c 2 + 1)) (setI (setI z1 0 15 (nI (m ^^^ 2 ^ k))) 0 14 ((setI z1 0 15 (nI (m ^^^ 2 ^ k))).1 0 14 + 1)) F S l r (m ^^^ 2 ^ k) := by
      refine d2.move hR hc (fun q k h => (rdI_ne h).trans (rdI_ne h)) rfl (fun q k h => ?_) (xor_lt (Bk.lm d2) k1) ?_ ?_ ?_ ?_
      · rcases h with h | ⟨h1, h2, h3⟩
        · exact (rdI_ne h).trans (rdI_ne h)
        · exact (rdI_nk h2).trans (rdI_nk h3)
      · exact (rdI_nk (by decide)).trans rdI_eq
      · exact (rdI_nk (by decide)).trans rdI_eq
      · rw [rdI_nk (by decide), rdI_nk (by decide), rdI_nk (by decide), rdI_nk (by decide)]; exact d2.d1
      · rw [rdI_eq, rdI_eq, rdI_nk (by decide), rdI_nk (by decide), d2.c1]
    have fr : ∀ v u, ∀ q k, q11 q → (setI (setI z1 0 15 v) 0 14 u).1 q k = z.1 q k := fun v u q k hq => by
      rw [rdI_ne hq.1, rdI_ne hq.1]; exact d3 q k hq
    have stay : ∀ v, v = nI m → (if v = z1.1 0 15 then setI z1 0 15 v else setI (setI z1 0 15 v) 0 14 ((setI z1 0 15 v).1 0 14 + 1)) = z1 := fun v e => by
      rw [if_pos (by rw [e, hzs]), set_same (by rw [e, hzs])]
    have turn : ∀ v, v = nI (m ^^^ 2 ^ k) → (if v = z1.1 0 15 then setI z1 0 15 v else setI (setI z1 0 15 v) 0 14 ((setI z1 0 15 v).1 0 14 + 1)) = setI (setI z1 0 15 (nI (m ^^^ 2 ^ k))) 0 14 ((setI z1 0 15 (nI (m ^^^ 2 ^ k))).1 0 14 + 1) := fun v e => by
      rw [if_neg (by rw [e, hzs]; exact flip_ne hm (by omega)), e]
    have hst := mstep_v hj d1 rfl
    rw [k3, hzs] at hst
    by_cases hk : x1.1 27 j = 1
    · rw [if_neg (k4.mp hk)] at hst
      rw [decide_eq_true hk]
      cases hbit : bit (nI m) k with
      | true =>
        rw [(or_nI hm (by omega)).1 hbit] at hst
        rw [if_pos rfl]
        have st := stay (nI m) rfl
        rw [hzs] at st
        rw [st] at hst
        exact ⟨z1, m, hst, d2, d3⟩
      | false =>
        rw [show (nI m ||| ((1 : Int32) <<< (nI k &&& 31))) = nI (m ^^^ 2 ^ k) from with_nI hm (by omega) hbit] at hst
        rw [if_neg (show ¬ false = true by decide), if_pos rfl, with_nI hm (by omega) hbit]
        have st := turn (nI (m ^^^ 2 ^ k)) rfl
        rw [hzs] at st
        rw [st] at hst
        exact ⟨_, _, hst, hflip, fr _ _⟩
    · rw [if_pos (Classical.not_not.mp (fun h => hk (k4.mpr h)))] at hst
      rw [decide_eq_false hk]
      cases hbit : bit (nI m) k with
      | false =>
        rw [(or_nI hm (by omega)).2 hbit] at hst
        rw [if_pos rfl]
        have st := stay (nI m) rfl
        rw [hzs] at st
        rw [st] at hst
        exact ⟨z1, m, hst, d2, d3⟩
      | true =>
        rw [show (nI m &&& (((1 : Int32) <<< (nI k &&& 31)) ^^^ (-1))) = nI (m ^^^ 2 ^ k) from without_nI hm (by omega) hbit] at hst
        rw [if_neg (show ¬ true = false by decide), if_neg (show ¬ false = true by decide), without_nI hm (by omega) hbit]
        have st := turn (nI (m ^^^ 2 ^ k)) rfl
        rw [hzs] at st
        rw [st] at hst
        exact ⟨_, _, hst, hflip, fr _ _⟩
