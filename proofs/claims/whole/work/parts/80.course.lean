/-! A course of days at the cell c, and the two stacks -/
def ovr (c : Nat) (x : XS) : XS := (fun q k => if q = 46 then x.1 c k else x.1 q k, x.2)
theorem ovr_1 {c : Nat} {x : XS} {q k : Nat} (h : q ≠ 46) : (ovr c x).1 q k = x.1 q k := if_neg h
theorem ovr_c {c : Nat} {x : XS} {k : Nat} : (ovr c x).1 46 k = x.1 c k := by
  show (if 46 = 46 then x.1 c k else x.1 46 k) = _
  exact if_pos rfl
theorem ovr_46 (x : XS) : ovr 46 x = x := by
  refine Prod.ext (funext fun q => funext fun k => ?_) rfl
  show (if q = 46 then x.1 46 k else x.1 q k) = x.1 q k
  by_cases h : q = 46
  · rw [if_pos h, h]
  · rw [if_neg h]
def BkC (R : XS → XS → Prop) (c : Nat) (x z : XS) (F S : Nat) (l r : Nat → Nat) (m : Nat) : Prop := Bk R (ovr c x) z F S l r m
def isC (c : Nat) : Prop := c = 46 ∨ c = 47
theorem BkC.x1 {R : XS → XS → Prop} {c : Nat} {x z : XS} {F S : Nat} {l r : Nat → Nat} {m : Nat} (h : BkC R c x z F S l r m) : BkX x F S l r := BkX_of (fun q k hq => (ovr_1 (by omega)).symm) (Bk.bx h)
theorem BkC.p1 {R : XS → XS → Prop} {c : Nat} {x z : XS} {F S : Nat} {l r : Nat → Nat} {m : Nat} (h : BkC R c x z F S l r m) : PeaB x F S l r := PeaB_of (ovr_1 (by decide)).symm (fun _ => rfl) (Bk.pea h)
theorem BkC.l1 {R : XS → XS → Prop} {c : Nat} {x z : XS} {F S : Nat} {l r : Nat → Nat} {m : Nat} (h : BkC R c x z F S l r m) : x.1 40 6 = -1 ∨ LandC x F S l r (x.1 40 6) := by
  have := Bk.land h
  rw [ovr_1 (by decide)] at this
  exact this.imp id (LandC_of (ovr_1 (by decide)).symm (fun _ => rfl))
theorem BkC.w1 {R : XS → XS → Prop} {c : Nat} {x z : XS} {F S : Nat} {l r : Nat → Nat} {m : Nat} (h : BkC R c x z F S l r m) : x.1 37 5 = -1 ∨ WebC x F S l r (x.1 37 5) := by
  have := Bk.web h
  rw [ovr_1 (by decide)] at this
  exact this.imp id (WebC_of (fun q k hq => (ovr_1 (by omega)).symm))
theorem BkC.s1 {R : XS → XS → Prop} {c : Nat} {x z : XS} {F S : Nat} {l r : Nat → Nat} {m : Nat} (h : BkC R c x z F S l r m) : x.1 c 1 = nI m := ovr_c.symm.trans (Bk.xs h)
theorem BkC.d1 {R : XS → XS → Prop} {c : Nat} {x z : XS} {F S : Nat} {l r : Nat → Nat} {m : Nat} (h : BkC R c x z F S l r m) : x.1 c 0 = z.1 0 13 := ovr_c.symm.trans (Bk.dy h)
theorem BkC.c1 {R : XS → XS → Prop} {c : Nat} {x z : XS} {F S : Nat} {l r : Nat → Nat} {m : Nat} (h : BkC R c x z F S l r m) : x.1 c 2 = z.1 0 14 := ovr_c.symm.trans (Bk.co h)
theorem BkC.atX {R : XS → XS → Prop} (hR : Stab R) {c : Nat} {x y z : XS} {F S : Nat} {l r : Nat → Nat} {m : Nat} (h : BkC R c x z F S l r m) (hk : KX x y) (hcc : ∀ k, y.1 c k = x.1 c k) (h404 : y.1 40 4 = x.1 40 4) (h43 : ∀ k, y.2 43 k = x.2 43 k)
    (hw : y.1 37 5 = -1 ∨ WebC y F S l r (y.1 37 5)) (hl : y.1 40 6 = -1 ∨ LandC y F S l r (y.1 40 6)) : BkC R c y z F S l r m := by
  refine Bk.atX hR h (fun q hq k => ⟨by rw [ovr_1 (by omega), ovr_1 (by omega)]; exact (hk q hq k).1, (hk q hq k).2⟩) (fun k => by rw [ovr_c, ovr_c]; exact hcc k) (by rw [ovr_1 (by decide), ovr_1 (by decide)]; exact h404) h43 ?_ ?_
  · rw [ovr_1 (by decide)]; exact hw.imp id (WebC_of (fun q k hq => ovr_1 (by omega)))
  · rw [ovr_1 (by decide)]; exact hl.imp id (LandC_of (ovr_1 (by decide)) (fun _ => rfl))
theorem BkC.land2 {R : XS → XS → Prop} (hR : Stab R) {c : Nat} (hc : isC c) {x z : XS} {F S : Nat} {l r : Nat → Nat} {m : Nat} (h : BkC R c x z F S l r m) {s : Int32} (hs : s ≠ -1) : BkC R c (landLook s x) z F S l r m := by
  obtain ⟨q1, q2⟩ := land_ok h.x1 h.p1 h.l1 hs
  unfold isC at hc
  refine h.atX hR (fun q hq k => ⟨land_1 (by omega), land_2 (by omega)⟩) (fun k => land_1 (by omega)) (land_40 (by decide) (by decide)) (fun k => land_2 (by decide)) ?_ (Or.inr (by rw [q2]; exact q1))
  rw [land_1 (by decide)]
  exact h.w1.imp id (WebC_of (fun q k hq => land_1 (by omega)))
theorem BkC.web2 {R : XS → XS → Prop} (hR : Stab R) {c : Nat} (hc : isC c) {x z : XS} {F S : Nat} {l r : Nat → Nat} {m : Nat} (h : BkC R c x z F S l r m) {s : Int32} (hs : s ≠ -1) : BkC R c (webLook s x) z F S l r m ∧ WebC (webLook s x) F S l r s := by
  obtain ⟨q1, q2⟩ := web_ok h.x1 h.w1 hs
  unfold isC at hc
  refine ⟨h.atX hR (fun q hq k => ⟨web_1 (by omega) (by omega) (by omega), by rw [web_2]⟩) (fun k => web_1 (by omega) (by omega) (by omega)) (web_1 (by decide) (by decide) (by decide)) (fun k => by rw [web_2]) (Or.inr (by rw [q2]; exact q1)) ?_, q1⟩
  rw [web_1 (by decide) (by decide) (by decide)]
  exact h.l1.imp id (LandC_of (web_1 (by decide) (by decide) (by decide)) (fun k => by rw [web_2]))
theorem BkC.st {R : XS → XS → Prop} (hR : Stab R) {c : Nat} (hc : isC c) {x y z : XS} {F S : Nat} {l r : Nat → Nat} {m : Nat} (h : BkC R c x z F S l r m) (e : ∀ q k, q ≠ 44 → q ≠ 45 → y.1 q k = x.1 q k) (e2 : y.2 = x.2) : BkC R c y z F S l r m := by
  unfold isC at hc
  refine h.atX hR (fun q hq k => ⟨e q k (by omega) (by omega), by rw [e2]⟩) (fun k => e c k (by omega) (by omega)) (e _ _ (by decide) (by decide)) (fun k => by rw [e2]) ?_ ?_
  · rw [e _ _ (by decide) (by decide)]; exact h.w1.imp id (WebC_of (fun q k hq => e q k (by omega) (by omega)))
  · rw [e _ _ (by decide) (by decide)]; exact h.l1.imp id (LandC_of (e _ _ (by decide) (by decide)) (fun k => by rw [e2]))
theorem BkC.z7 {R : XS → XS → Prop} (hR : Stab R) {c : Nat} {x z : XS} {F S : Nat} {l r : Nat → Nat} {m : Nat} (h : BkC R c x z F S l r m) (k : Nat) (v : Int32) : BkC R c x (setI z 7 k v) F S l r m := by
  have e : ∀ q j, q ≠ 7 → (setI z 7 k v).1 q j = z.1 q j := fun q j hq => rdI_ne hq
  refine Bk.atZ hR h ⟨fun q j hq => e _ _ (by omega), e _ _ (by decide), e _ _ (by decide)⟩ (fun j _ => e _ _ (by decide)) ?_ ?_
  · rw [e _ _ (by decide)]; exact (Bk.fol h).imp id (FolC_of (fun k => e _ _ (by decide)) (e _ _ (by decide)))
  · rw [e _ _ (by decide)]; exact (Bk.look h).imp id (LookC_of (fun k => e _ _ (by decide)) (fun k _ => e _ _ (by decide)))
/-! the two stacks; T tells from the top which are yes or no -/
def StR (x z : XS) : List Bool → Prop
  | [] => True
  | b :: t => x.1 45 t.length = z.1 7 t.length ∧ (b = true → x.1 45 t.length = 0 ∨ x.1 45 t.length = 1) ∧ StR x z t
theorem StR_of {x y z w : XS} : ∀ {T : List Bool}, (∀ k, k < T.length → y.1 45 k = x.1 45 k) → (∀ k, k < T.length → w.1 7 k = z.1 7 k) → StR x z T → StR y w T
  | [], _, _, _ => trivial
  | b :: t, h1, h2, ⟨a1, a2, a3⟩ => by
    have e1 := h1 t.length (Nat.lt_succ_self _)
    have e2 := h2 t.length (Nat.lt_succ_self _)
    exact ⟨by rw [e1, e2]; exact a1, fun hb => by rw [e1]; exact a2 hb, StR_of (fun k hk => h1 k (Nat.lt_succ_of_lt hk)) (fun k hk => h2 k (Nat.lt_succ_of_lt hk)) a3⟩
def JS (T : List Bool) (x z : XS) : Prop := T.length ≤ 400 ∧ x.1 44 4 = nI T.length ∧ StR x z T
theorem push_eq {T : List Bool} {x : XS} (h : x.1 44 4 = nI T.length) (hT : T.length < 400) (v : Int32) : pushF x v = setI (setI x 45 T.length v) 44 4 (nI (T.length + 1)) := by
  unfold pushF
  rw [h, if_neg (nI_pos (by omega)), if_neg (nI_ge hT (by decide)), nI_clamp (by omega)]
  dsimp only
  rw [rdI_ne (by decide), h, show nI T.length + 1 = nI (T.length + 1) from nI_addN _ 1]
theorem JS_push {T : List Bool} {x z : XS} (h : JS T x z) (hT : T.length < 400) {v : Int32} {b : Bool} (hb : b = true → v = 0 ∨ v = 1) : JS (b :: T) (pushF x v) (setI z 7 T.length v) := by
  rw [push_eq h.2.1 hT]
  refine ⟨hT, rdI_eq, ?_, fun hh => ?_, StR_of (fun k hk => ?_) (fun k hk => rdI_nk (by omega)) h.2.2⟩
  · rw [rdI_ne (by decide), rdI_eq, rdI_eq]
  · rw [rdI_ne (by decide), rdI_eq]; exact hb hh
  · rw [rdI_ne (by decide), rdI_nk (by omega)]
theorem pop_eq {b : Bool} {t : List Bool} {x z : XS} (h : JS (b :: t) x z) : popF x = (x.1 45 t.length, setI x 44 4 (nI t.length)) := by
  obtain ⟨h1, h2, -⟩ := h
  have h1' : t.length + 1 ≤ 400 := h1
  have h2' : x.1 44 4 = nI (t.length + 1) := h2
  have e : nI (t.length + 1) - 1 = nI t.length := by rw [← nI_addN t.length 1]; exact Int32.add_sub_cancel _ _
  unfold popF
  rw [h2', if_neg (fun q => by have := (nI_le0 (by omega)).mp q; omega), if_pos ((nI_leq (by omega) (by decide)).mpr h1')]
  dsimp only
  rw [e, rdI_ne (by decide), rdI_eq, nI_clamp (by omega)]
theorem JS_pop {b : Bool} {t : List Bool} {x z : XS} (h : JS (b :: t) x z) : (popF x).1 = z.1 7 t.length ∧ (b = true → (popF x).1 = 0 ∨ (popF x).1 = 1) ∧ JS t (popF x).2 z := by
  rw [pop_eq h]
  obtain ⟨h1, h2, h3, h4, h5⟩ := h
  exact ⟨h3, h4, Nat.le_of_succ_le h1, rdI_eq, StR_of (fun k _ => rdI_ne (by decide)) (fun _ _ => rfl) h5⟩
def tpI (n : Nat) : Int32 := nI n + Int32.ofInt (-1)
theorem tpI_s (n : Nat) : tpI (n + 1) = nI n := by
  unfold tpI
  rw [← nI_addN n 1, Int32.add_assoc]
  show nI n + (1 + -1) = _
  exact Int32.add_zero _
theorem tpI_1 (n : Nat) : tpI n + 1 = nI n := by
  unfold tpI
  rw [Int32.add_assoc]
  exact Int32.add_zero _
