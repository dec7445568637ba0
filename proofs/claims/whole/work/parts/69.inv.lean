/-! One book in both: what the two keep, the words each has looked up -/
def KX (x y : XS) : Prop := ∀ q, q < 37 → ∀ k, y.1 q k = x.1 q k ∧ y.2 q k = x.2 q k
def KZ (z w : XS) : Prop := (∀ q k, q = 1 ∨ (11 ≤ q ∧ q < 21) → w.1 q k = z.1 q k) ∧ w.1 0 2 = z.1 0 2 ∧ w.1 0 3 = z.1 0 3
def Stab (R : XS → XS → Prop) : Prop := ∀ {x z y w : XS}, R x z → KX x y → KZ z w → R y w
def Bk (R : XS → XS → Prop) (x z : XS) (F S : Nat) (l r : Nat → Nat) (m : Nat) : Prop :=
  (BkX x F S l r) ∧
  (BkZ z F S l r) ∧
  (PeaB x F S l r) ∧
  (∀ k, k < S → x.1 22 k = kindF z (nI k) ∧ x.1 23 k = z.1 13 k ∧ x.1 24 k = z.1 14 k) ∧
  (m < 2 ^ S) ∧
  (x.1 46 1 = nI m) ∧
  (z.1 0 15 = nI m) ∧
  (x.1 46 0 = z.1 0 13) ∧
  (x.1 46 2 = z.1 0 14) ∧
  (x.1 37 5 = -1 ∨ WebC x F S l r (x.1 37 5)) ∧
  (x.1 40 6 = -1 ∨ LandC x F S l r (x.1 40 6)) ∧
  (z.1 0 22 = -1 ∨ FolC z F S l r (z.1 0 22)) ∧
  (z.1 0 17 = -1 ∨ LookC z F S l r (z.1 0 17)) ∧
  (R x z)
theorem Bk.bx {R : XS → XS → Prop} {x z : XS} {F S : Nat} {l r : Nat → Nat} {m : Nat} (h : Bk R x z F S l r m) : BkX x F S l r := h.1
theorem Bk.bz {R : XS → XS → Prop} {x z : XS} {F S : Nat} {l r : Nat → Nat} {m : Nat} (h : Bk R x z F S l r m) : BkZ z F S l r := h.2.1
theorem Bk.pea {R : XS → XS → Prop} {x z : XS} {F S : Nat} {l r : Nat → Nat} {m : Nat} (h : Bk R x z F S l r m) : PeaB x F S l r := h.2.2.1
theorem Bk.kin {R : XS → XS → Prop} {x z : XS} {F S : Nat} {l r : Nat → Nat} {m : Nat} (h : Bk R x z F S l r m) : ∀ k, k < S → x.1 22 k = kindF z (nI k) ∧ x.1 23 k = z.1 13 k ∧ x.1 24 k = z.1 14 k := h.2.2.2.1
theorem Bk.lm {R : XS → XS → Prop} {x z : XS} {F S : Nat} {l r : Nat → Nat} {m : Nat} (h : Bk R x z F S l r m) : m < 2 ^ S := h.2.2.2.2.1
theorem Bk.xs {R : XS → XS → Prop} {x z : XS} {F S : Nat} {l r : Nat → Nat} {m : Nat} (h : Bk R x z F S l r m) : x.1 46 1 = nI m := h.2.2.2.2.2.1
theorem Bk.zs {R : XS → XS → Prop} {x z : XS} {F S : Nat} {l r : Nat → Nat} {m : Nat} (h : Bk R x z F S l r m) : z.1 0 15 = nI m := h.2.2.2.2.2.2.1
theorem Bk.dy {R : XS → XS → Prop} {x z : XS} {F S : Nat} {l r : Nat → Nat} {m : Nat} (h : Bk R x z F S l r m) : x.1 46 0 = z.1 0 13 := h.2.2.2.2.2.2.2.1
theorem Bk.co {R : XS → XS → Prop} {x z : XS} {F S : Nat} {l r : Nat → Nat} {m : Nat} (h : Bk R x z F S l r m) : x.1 46 2 = z.1 0 14 := h.2.2.2.2.2.2.2.2.1
theorem Bk.web {R : XS → XS → Prop} {x z : XS} {F S : Nat} {l r : Nat → Nat} {m : Nat} (h : Bk R x z F S l r m) : x.1 37 5 = -1 ∨ WebC x F S l r (x.1 37 5) := h.2.2.2.2.2.2.2.2.2.1
theorem Bk.land {R : XS → XS → Prop} {x z : XS} {F S : Nat} {l r : Nat → Nat} {m : Nat} (h : Bk R x z F S l r m) : x.1 40 6 = -1 ∨ LandC x F S l r (x.1 40 6) := h.2.2.2.2.2.2.2.2.2.2.1
theorem Bk.fol {R : XS → XS → Prop} {x z : XS} {F S : Nat} {l r : Nat → Nat} {m : Nat} (h : Bk R x z F S l r m) : z.1 0 22 = -1 ∨ FolC z F S l r (z.1 0 22) := h.2.2.2.2.2.2.2.2.2.2.2.1
theorem Bk.look {R : XS → XS → Prop} {x z : XS} {F S : Nat} {l r : Nat → Nat} {m : Nat} (h : Bk R x z F S l r m) : z.1 0 17 = -1 ∨ LookC z F S l r (z.1 0 17) := h.2.2.2.2.2.2.2.2.2.2.2.2.1
theorem Bk.rest {R : XS → XS → Prop} {x z : XS} {F S : Nat} {l r : Nat → Nat} {m : Nat} (h : Bk R x z F S l r m) : R x z := h.2.2.2.2.2.2.2.2.2.2.2.2.2
def IV (R : XS → XS → Prop) (x z : XS) : Prop := ∃ F S l r m, Bk R x z F S l r m
theorem WebC_of {x y : XS} {F S : Nat} {l r : Nat → Nat} {s : Int32} (h : ∀ q k, q = 37 ∨ q = 38 ∨ q = 39 → y.1 q k = x.1 q k) (hW : WebC x F S l r s) : WebC y F S l r s := by
  obtain ⟨a, b, c, d⟩ := hW
  exact ⟨by rw [h _ _ (by simp)]; exact a, fun i hi j hj => by rw [h _ _ (by simp)]; exact b i hi j hj, fun i hi j hj => by rw [h _ _ (by simp)]; exact c i hi j hj, by rw [h _ _ (by simp)]; exact d⟩
theorem LandC_of {x y : XS} {F S : Nat} {l r : Nat → Nat} {s : Int32} (h1 : y.1 40 5 = x.1 40 5) (h2 : ∀ k, y.2 41 k = x.2 41 k) (hL : LandC x F S l r s) : LandC y F S l r s :=
  ⟨fun w hw b hb => by rw [h2]; exact hL.1 w hw b hb, h1.trans hL.2⟩
theorem FolC_of {z w : XS} {F S : Nat} {l r : Nat → Nat} {s : Int32} (h1 : ∀ k, w.1 9 k = z.1 9 k) (h2 : w.1 0 23 = z.1 0 23) (hL : FolC z F S l r s) : FolC w F S l r s :=
  ⟨fun c hc d hd => by rw [h1]; exact hL.1 c hc d hd, h2.trans hL.2⟩
theorem LookC_of {z w : XS} {F S : Nat} {l r : Nat → Nat} {s : Int32} (h1 : ∀ k, w.1 8 k = z.1 8 k) (h2 : ∀ k, k = 18 ∨ k = 19 ∨ k = 20 → w.1 0 k = z.1 0 k) (hL : LookC z F S l r s) : LookC w F S l r s := by
  obtain ⟨a, b, c, d⟩ := hL
  exact ⟨by rw [h2 _ (by simp)]; exact a, by rw [h2 _ (by simp)]; exact b, by rw [h2 _ (by simp)]; exact c, fun i hi => by rw [h1]; exact d i hi⟩
theorem kind_eq {z w : XS} {s : Int32} (h : ∀ i, w.1 12 i = z.1 12 i) : kindF w s = kindF z s := by unfold kindF; simp only [h]
/-- the class's side may move in what it has looked up -/
theorem Bk.atX {R : XS → XS → Prop} (hR : Stab R) {x z y : XS} {F S : Nat} {l r : Nat → Nat} {m : Nat} (h : Bk R x z F S l r m) (hk : KX x y) (h46 : ∀ k, y.1 46 k = x.1 46 k) (h404 : y.1 40 4 = x.1 40 4) (h43 : ∀ k, y.2 43 k = x.2 43 k)
    (hw : y.1 37 5 = -1 ∨ WebC y F S l r (y.1 37 5)) (hl : y.1 40 6 = -1 ∨ LandC y F S l r (y.1 40 6)) : Bk R y z F S l r m :=
  ⟨BkX_of (fun q k hq => (hk q (by omega) k).1) h.bx, h.bz, PeaB_of h404 h43 h.pea, fun k hks => by rw [(hk 22 (by decide) k).1, (hk 23 (by decide) k).1, (hk 24 (by decide) k).1]; exact h.kin k hks, h.lm, by rw [h46]; exact h.xs, h.zs, by rw [h46]; exact h.dy, by rw [h46]; exact h.co, hw, hl, h.fol, h.look, hR h.rest hk ⟨fun _ _ _ => rfl, rfl, rfl⟩⟩
theorem Bk.atZ {R : XS → XS → Prop} (hR : Stab R) {x z w : XS} {F S : Nat} {l r : Nat → Nat} {m : Nat} (h : Bk R x z F S l r m) (hk : KZ z w) (h0 : ∀ k, k = 13 ∨ k = 14 ∨ k = 15 → w.1 0 k = z.1 0 k)
    (hf : w.1 0 22 = -1 ∨ FolC w F S l r (w.1 0 22)) (hl : w.1 0 17 = -1 ∨ LookC w F S l r (w.1 0 17)) : Bk R x w F S l r m :=
  ⟨h.bx, BkZ_of (fun q k hq => hk.1 q k (by omega)) h.bz, h.pea, fun k hks => by rw [kind_eq (fun i => hk.1 12 i (by omega)), hk.1 13 k (by omega), hk.1 14 k (by omega)]; exact h.kin k hks, h.lm, h.xs, by rw [h0 _ (by simp)]; exact h.zs, by rw [h0 _ (by simp)]; exact h.dy, by rw [h0 _ (by simp)]; exact h.co, h.web, h.land, hf, hl, hR h.rest (fun _ _ _ => ⟨rfl, rfl⟩) hk⟩
theorem small_m {S m : Nat} (hS : S ≤ 20) (h : m < 2 ^ S) : m < 2 ^ 20 := Nat.lt_of_lt_of_le h (Nat.pow_le_pow_right (by decide) hS)
theorem nI_ne1 {m : Nat} (h : m < 2 ^ 20) : nI m ≠ -1 := by
  intro e
  have := congrArg Int32.toInt e
  rw [nI_toInt (by omega)] at this
  have h2 : (-1 : Int32).toInt = -1 := by decide
  omega
theorem Bk.land1 {R : XS → XS → Prop} (hR : Stab R) {x z : XS} {F S : Nat} {l r : Nat → Nat} {m : Nat} (h : Bk R x z F S l r m) {s : Int32} (hs : s ≠ -1) : Bk R (landLook s x) z F S l r m ∧ LandC (landLook s x) F S l r s := by
  obtain ⟨q1, q2⟩ := land_ok h.bx h.pea h.land hs
  refine ⟨h.atX hR (fun q hq k => ⟨land_1 (by omega), land_2 (by omega)⟩) (fun k => land_1 (by decide)) (land_40 (by decide) (by decide)) (fun k => land_2 (by decide)) ?_ (Or.inr (by rw [q2]; exact q1)), q1⟩
  rw [land_1 (by decide)]
  exact h.web.imp id (WebC_of (fun q k hq => land_1 (by omega)))
theorem Bk.web1 {R : XS → XS → Prop} (hR : Stab R) {x z : XS} {F S : Nat} {l r : Nat → Nat} {m : Nat} (h : Bk R x z F S l r m) {s : Int32} (hs : s ≠ -1) : Bk R (webLook s x) z F S l r m ∧ WebC (webLook s x) F S l r s := by
  obtain ⟨q1, q2⟩ := web_ok h.bx h.web hs
  refine ⟨h.atX hR (fun q hq k => ⟨web_1 (by omega) (by omega) (by omega), by rw [web_2]⟩) (fun k => web_1 (by decide) (by decide) (by decide)) (web_1 (by decide) (by decide) (by decide)) (fun k => by rw [web_2]) (Or.inr (by rw [q2]; exact q1)) ?_, q1⟩
  rw [web_1 (by decide) (by decide) (by decide)]
  exact h.land.imp id (LandC_of (web_1 (by decide) (by decide) (by decide)) (fun k => by rw [web_2]))
theorem Bk.rid1 {R : XS → XS → Prop} (hR : Stab R) {x z : XS} {F S : Nat} {l r : Nat → Nat} {m : Nat} (h : Bk R x z F S l r m) {s : Int32} (hs : s ≠ -1) : Bk R (ridersU x s).2 z F S l r m ∧ ∃ t, (ridersU x s).1 = nI t ∧ t < 1024 ∧ Best (PA l r s S) (2 ^ F) t := by
  obtain ⟨q1, q2, q3⟩ := riders_ok h.bx h.pea h.land hs
  obtain ⟨h1, h2⟩ := h.land1 hR hs
  refine ⟨h1.atX hR (fun q hq k => ⟨by rw [q2], q3 q k (by omega)⟩) (fun k => by rw [q2]) (by rw [q2]) (fun k => q3 43 k (by decide)) ?_ ?_, q1⟩
  · rw [q2]; exact h1.web.imp id (WebC_of (fun q k _ => by rw [q2]))
  · rw [q2]; exact h1.land.imp id (LandC_of (by rw [q2]) (fun k => q3 41 k (by decide)))
theorem Bk.fol1 {R : XS → XS → Prop} (hR : Stab R) {x z : XS} {F S : Nat} {l r : Nat → Nat} {m : Nat} (h : Bk R x z F S l r m) : Bk R x (mfol z) F S l r m ∧ FolC (mfol z) F S l r (nI m) := by
  obtain ⟨q1, q2⟩ := fol_ok h.bz h.fol (nI_ne1 (small_m h.bz.2.1 h.lm)) h.zs
  refine ⟨h.atZ hR ⟨fun q k hq => fol_1 (by omega) (by omega), fol_0 (by decide) (by decide), fol_0 (by decide) (by decide)⟩ (fun k hk => fol_0 (by omega) (by omega)) (Or.inr (by rw [q2]; exact q1)) ?_, q1⟩
  rw [fol_0 (by decide) (by decide)]
  exact h.look.imp id (LookC_of (fun k => fol_1 (by decide) (by decide)) (fun k hk => fol_0 (by omega) (by omega)))
theorem mlt_0 {r : Int32} {y : XS} {q k : Nat} (h : q ≠ 0 ∨ k ≠ 20) : (mltF r y).1 q k = y.1 q k := by
  have e : ∀ v, (setI y 0 20 v).1 q k = y.1 q k := fun v => by
    rcases h with h | h
    · exact rdI_ne h
    · exact rdI_nk h
  unfold mltF
  split
  · exact e _
  · split
    · exact e _
    · rfl
theorem mlc_fr {r : Int32} {n : Nat} {y : XS} {q k : Nat} (h : q ≠ 8) : (itP (mlcF r) n y).1 q k = y.1 q k :=
  itP_rel (P := fun _ (u : XS) => u.1 q k = y.1 q k) rfl (fun j _ u hu => (rdI_ne h).trans hu)
theorem mlook_0 {b : Int32} {x : XS} {k : Nat} (h : k ≠ 17 ∧ k ≠ 18 ∧ k ≠ 19 ∧ k ≠ 20) : (mlook b x).1 0 k = x.1 0 k := by
  unfold mlook
  split
  · rfl
  · dsimp only
    refine itP_rel (P := fun _ (u : XS) => u.1 0 k = x.1 0 k) ?_ (fun j _ u hu => ?_)
    · refine itP_rel (f := fun j y => setI y 8 (j : Nat) 0) (P := fun _ (u : XS) => u.1 0 k = x.1 0 k) ?_ (fun j _ u hu => (rdI_ne (by decide)).trans hu)
      rw [rdI_nk (by omega), rdI_nk (by omega), rdI_nk (by omega), rdI_nk (by omega)]
    · unfold mlkF
      split
      · dsimp only
        rw [mlc_fr (by decide), rdI_nk (by omega), rdI_nk (by omega), mlt_0 (Or.inr (by omega))]
        exact hu
      · exact hu
theorem Bk.look1 {R : XS → XS → Prop} (hR : Stab R) {x z : XS} {F S : Nat} {l r : Nat → Nat} {m : Nat} (h : Bk R x z F S l r m) {s : Int32} (hs : s ≠ -1) : Bk R x (mlook s z) F S l r m ∧ LookC (mlook s z) F S l r s := by
  obtain ⟨q1, q2⟩ := look_ok h.bz h.look hs
  refine ⟨h.atZ hR ⟨fun q k hq => mlook_1 (by omega) (by omega), mlook_0 (by decide), mlook_0 (by decide)⟩ (fun k hk => mlook_0 (by omega)) ?_ (Or.inr (by rw [q2]; exact q1)), q1⟩
  rw [mlook_0 (by decide)]
  exact h.fol.imp id (FolC_of (fun k => mlook_1 (by decide) (by decide)) (mlook_0 (by decide)))
theorem Bk.z0 {R : XS → XS → Prop} (hR : Stab R) {x z : XS} {F S : Nat} {l r : Nat → Nat} {m : Nat} (h : Bk R x z F S l r m) (v : Int32) : Bk R x (setI z 0 0 v) F S l r m := by
  have e : ∀ q k, q ≠ 0 ∨ k ≠ 0 → (setI z 0 0 v).1 q k = z.1 q k := fun q k h => by
    rcases h with h | h
    · exact rdI_ne h
    · exact rdI_nk h
  refine h.atZ hR ⟨fun q k hq => e _ _ (by omega), e _ _ (by omega), e _ _ (by omega)⟩ (fun k hk => e _ _ (by omega)) ?_ ?_
  · rw [e _ _ (by omega)]; exact h.fol.imp id (FolC_of (fun k => e _ _ (by omega)) (e _ _ (by omega)))
  · rw [e _ _ (by omega)]; exact h.look.imp id (LookC_of (fun k => e _ _ (by omega)) (fun k hk => e _ _ (by omega)))
theorem Bk.r0 {R : XS → XS → Prop} (hR : Stab R) {x z : XS} {F S : Nat} {l r : Nat → Nat} {m : Nat} (h : Bk R x z F S l r m) : Bk R x (r0 z) F S l r m := h.z0 hR 0
/-! the numbers asked for -/
theorem nI_small : ∀ n, n ≤ 20 → (nI n - 1).toInt = (n : Int) - 1 := by decide +kernel
theorem rng {n : Nat} (hn : n ≤ 20) (p : Int32) : (∃ k, k < n ∧ p = nI k ∧ ¬ nI k < 0 ∧ nI k < nI n ∧ isInB (nI k) 0 (nI n - 1) = true) ∨ ((p < 0 ∨ (¬ p < 0 ∧ ¬ p < nI n)) ∧ isInB p 0 (nI n - 1) = false) := by
  have e1 := nI_small n hn
  have e2 : (nI n).toInt = n := nI_toInt (by omega)
  have e0 : (0 : Int32).toInt = 0 := by decide
  by_cases h1 : p < 0
  · refine Or.inr ⟨Or.inl h1, ?_⟩
    cases hb : isInB p 0 (nI n - 1) with
    | false => rfl
    | true =>
      rw [isInB_iff] at hb
      rw [Int32.lt_iff_toInt_lt] at h1
      omega
  · by_cases h2 : p < nI n
    · refine Or.inl ⟨p.toInt.toNat, ?_⟩
      have h1' := h1
      have h2' := h2
      rw [Int32.lt_iff_toInt_lt] at h1 h2
      have hp : p = nI p.toInt.toNat := by
        apply Int32.toInt_inj.mp
        rw [nI_toInt (by omega)]
        omega
      refine ⟨by omega, hp, ?_⟩
      rw [← hp]
      exact ⟨h1', h2', isInB_iff.mpr (by omega)⟩
    · refine Or.inr ⟨Or.inr ⟨h1, h2⟩, ?_⟩
      cases hb : isInB p 0 (nI n - 1) with
      | false => rfl
      | true =>
        rw [isInB_iff] at hb
        rw [Int32.lt_iff_toInt_lt] at h2
        omega
theorem needSt {x z : XS} {F S : Nat} {l r : Nat → Nat} (hx : BkX x F S l r) (hz : BkZ z F S l r) (p : Int32) : (∃ k, k < S ∧ p = nI k ∧ f_X8_needStatement (nI k) x = some (.inr (none, x)) ∧ misSt z (nI k) = true) ∨ (f_X8_needStatement p x = some (.inl ("java/lang/IndexOutOfBoundsException", x)) ∧ misSt z p = false) := by
  unfold f_X8_needStatement misSt
  rw [hx.2.2.2.1, hz.2.2.2.1]
  rcases rng hx.2.1 p with ⟨k, k1, k2, k3, k4, k5⟩ | ⟨h1, h2⟩
  · exact Or.inl ⟨k, k1, k2, by rw [if_neg k3, if_pos k4], k5⟩
  · refine Or.inr ⟨?_, h2⟩
    rcases h1 with h1 | ⟨h1, h3⟩
    · rw [if_pos h1]
    · rw [if_neg h1, if_neg h3]
theorem needCl {x z : XS} {F S : Nat} {l r : Nat → Nat} (hx : BkX x F S l r) (hz : BkZ z F S l r) (p : Int32) : (∃ k, k < 2 * F ∧ p = nI k ∧ f_X8_needClaim (nI k) x = some (.inr (none, x)) ∧ misCl z (nI k) = true) ∨ (f_X8_needClaim p x = some (.inl ("java/lang/IndexOutOfBoundsException", x)) ∧ misCl z p = false) := by
  unfold f_X8_needClaim misCl
  rw [hx.2.2.1, hz.2.2.1, two_nI]
  have hF := hx.1
  rcases rng (n := 2 * F) (by omega) p with ⟨k, k1, k2, k3, k4, k5⟩ | ⟨h1, h2⟩
  · exact Or.inl ⟨k, k1, k2, by rw [if_neg k3, if_pos k4], k5⟩
  · refine Or.inr ⟨?_, h2⟩
    rcases h1 with h1 | ⟨h1, h3⟩
    · rw [if_pos h1]
    · rw [if_neg h1, if_neg h3]
theorem z00 (z : XS) (v : Int32) : (setI z 0 0 v).1 0 0 = v := rdI_eq
theorem r00 (z : XS) : (r0 z).1 0 0 = 0 := rdI_eq
theorem r01 {z : XS} {q k : Nat} (h : q ≠ 0 ∨ k ≠ 0) : (r0 z).1 q k = z.1 q k := by
  rcases h with h | h
  · exact rdI_ne h
  · exact rdI_nk h
