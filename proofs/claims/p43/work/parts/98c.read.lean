/-! The reading of tokens: where it stands -/
abbrev Cod := Int32 × Int32 × Int32
def hk (ts : List Tok) : Int32 := (ts.headD (260, 0)).1
theorem hk_ne {t : Tok} {ts : List Tok} {k : Int32} (h : t.1 ≠ k) : hk (t :: ts) ≠ k := h
def Rd (x : XS) (ts : List Tok) : Prop := ∃ i, i + ts.length < 400 ∧ x.1 34 4 = nI i ∧ x.1 3 4 = nI (i + ts.length + 1) ∧ (∀ j, j < ts.length → x.1 5 (i + j) = (ts.getD j (0, 0)).1 ∧ x.2 7 (i + j) = (ts.getD j (0, 0)).2) ∧ x.1 5 (i + ts.length) = 260
theorem Rd.of {x y : XS} {ts : List Tok} (h : Rd x ts) (h1 : y.1 34 4 = x.1 34 4) (h2 : y.1 3 4 = x.1 3 4) (h3 : ∀ k, y.1 5 k = x.1 5 k) (h4 : ∀ k, y.2 7 k = x.2 7 k) : Rd y ts := by
  obtain ⟨i, a, b, c, d, e⟩ := h
  exact ⟨i, a, h1.trans b, h2.trans c, fun j hj => ⟨(h3 _).trans (d j hj).1, (h4 _).trans (d j hj).2⟩, (h3 _).trans e⟩
theorem Rd.cur {x : XS} {ts : List Tok} (h : Rd x ts) : curK x = hk ts := by
  obtain ⟨i, a, b, c, d, e⟩ := h
  unfold curK kindAtF
  rw [b, c, if_neg (nI_pos (by omega)), if_neg (fun q => by have := (nI_leq (by omega) (by omega)).mp q; omega), if_neg (fun q => by have := (nI_leq (by omega) (by omega)).mp q; omega), nI_clamp (by omega)]
  cases ts with
  | nil => exact e
  | cons t ts => exact (d 0 (by rw [List.length_cons]; omega)).1
theorem Rd.val {x : XS} {t : Tok} {ts : List Tok} (h : Rd x (t :: ts)) : valueAtF x (x.1 34 4) = t.2 := by
  obtain ⟨i, a, b, c, d, e⟩ := h
  rw [List.length_cons] at a c
  unfold valueAtF
  rw [b, c, if_neg (nI_pos (by omega)), if_neg (fun q => by have := (nI_leq (by omega) (by omega)).mp q; omega), if_neg (fun q => by have := (nI_leq (by omega) (by omega)).mp q; omega), nI_clamp (by omega)]
  exact (d 0 (by rw [List.length_cons]; omega)).2
theorem Rd.next {x : XS} {ts : List Tok} (h : Rd x ts) (k : Int32) : nextB x k = decide (hk ts = k) := by unfold nextB; rw [h.cur]
theorem Rd.nxt {x : XS} {t : Tok} {ts : List Tok} (h : Rd x (t :: ts)) : Rd (adv x) ts := by
  obtain ⟨i, a, b, c, d, e⟩ := h
  rw [List.length_cons] at a c e
  unfold adv
  rw [b, show nI i + 1 = nI (i + 1) from nI_addN i 1]
  refine ⟨i + 1, by omega, rdI_eq, ?_, fun j hj => ?_, ?_⟩
  · rw [rdI_ne (by decide), c]; exact congrArg nI (by omega)
  · have := d (j + 1) (by rw [List.length_cons]; omega)
    rw [List.getD_cons_succ, show i + (j + 1) = i + 1 + j by omega] at this
    exact ⟨(rdI_ne (by decide)).trans this.1, this.2⟩
  · rw [rdI_ne (by decide), show i + 1 + ts.length = i + (ts.length + 1) by omega]; exact e
/-- the names told so far -/
def Nm (F S : Nat) (x : XS) : Prop := x.1 8 0 = nI F ∧ F ≤ 10 ∧ (∀ i, i < F → x.2 35 i = nmFa i) ∧ x.1 8 1 = nI S ∧ S ≤ 20 ∧ ∀ i, i < S → x.2 36 i = nmSt i
def Rk (F S : Nat) (x : XS) (ts : List Tok) (c : Nat) : Prop := Rd x ts ∧ x.1 34 5 = 0 ∧ x.1 8 12 = nI c ∧ Nm F S x
/-- the code of the draft from c on -/
def CdA (x : XS) (c : Nat) (l : List Cod) : Prop := ∀ i, i < l.length → x.1 18 (c + i) = (l.getD i (0, 0, 0)).1 ∧ (((l.getD i (0, 0, 0)).1 = 259 ∨ (l.getD i (0, 0, 0)).1 = 319 ∨ (l.getD i (0, 0, 0)).1 = 320 ∨ (l.getD i (0, 0, 0)).1 = 321) → x.1 19 (c + i) = (l.getD i (0, 0, 0)).2.1) ∧ ((l.getD i (0, 0, 0)).1 = 321 → x.1 20 (c + i) = (l.getD i (0, 0, 0)).2.2)
def Ad (x y : XS) (c : Nat) (l : List Cod) : Prop := (∀ q k, q ≠ 34 → ¬ (18 ≤ q ∧ q ≤ 20) → ¬ (q = 8 ∧ k = 12) → y.1 q k = x.1 q k) ∧ y.2 = x.2 ∧ (∀ q k, 18 ≤ q → q ≤ 20 → k < c → y.1 q k = x.1 q k) ∧ CdA y c l
theorem CdA.of {x y : XS} {c : Nat} {l : List Cod} (h : CdA x c l) (g : ∀ q k, 18 ≤ q → q ≤ 20 → k < c + l.length → y.1 q k = x.1 q k) : CdA y c l := fun i hi => by
  obtain ⟨a, b, d⟩ := h i hi
  rw [g 18 _ (by omega) (by omega) (by omega), g 19 _ (by omega) (by omega) (by omega), g 20 _ (by omega) (by omega) (by omega)]
  exact ⟨a, b, d⟩
theorem gD_l {α : Type} {l m : List α} {i : Nat} {d : α} (h : i < l.length) : (l ++ m).getD i d = l.getD i d := by rw [List.getD_eq_getElem?_getD, List.getD_eq_getElem?_getD, List.getElem?_append_left h]
theorem gD_r {α : Type} {l m : List α} {i : Nat} {d : α} (h : l.length ≤ i) : (l ++ m).getD i d = m.getD (i - l.length) d := by rw [List.getD_eq_getElem?_getD, List.getD_eq_getElem?_getD, List.getElem?_append_right h]
theorem CdA.app {x : XS} {c : Nat} {l m : List Cod} (h : CdA x c l) (g : CdA x (c + l.length) m) : CdA x c (l ++ m) := fun i hi => by
  rw [List.length_append] at hi
  by_cases e : i < l.length
  · rw [gD_l e]; exact h i e
  · rw [gD_r (by omega)]
    have := g (i - l.length) (by omega)
    rw [show c + l.length + (i - l.length) = c + i by omega] at this
    exact this
theorem CdA.nil {x : XS} {c : Nat} : CdA x c [] := fun i hi => absurd hi (Nat.not_lt_zero _)
theorem Ad.refl {x : XS} {c : Nat} : Ad x x c [] := ⟨fun _ _ _ _ _ => rfl, rfl, fun _ _ _ _ _ => rfl, CdA.nil⟩
theorem Ad.trans {x y z : XS} {c : Nat} {l m : List Cod} (h : Ad x y c l) (g : Ad y z (c + l.length) m) : Ad x z c (l ++ m) := by
  obtain ⟨a1, a2, a3, a4⟩ := h
  obtain ⟨b1, b2, b3, b4⟩ := g
  exact ⟨fun q k u v w => (b1 q k u v w).trans (a1 q k u v w), b2.trans a2, fun q k u v w => (b3 q k u v (by omega)).trans (a3 q k u v w), (a4.of (fun q k u v w => b3 q k u v w)).app b4⟩
theorem Ad.trans0 {x y z : XS} {c : Nat} {m : List Cod} (h : Ad x y c []) (g : Ad y z c m) : Ad x z c m := Ad.trans (l := []) h g
theorem Ad.trans1 {x y z : XS} {c : Nat} {l : List Cod} (h : Ad x y c l) (g : Ad y z (c + l.length) []) : Ad x z c l := by
  have := h.trans g
  rw [List.append_nil] at this; exact this
theorem Nm.of {F S : Nat} {x y : XS} (h : Nm F S x) (h0 : y.1 8 0 = x.1 8 0) (h1 : y.1 8 1 = x.1 8 1) (h2 : ∀ q i, q = 35 ∨ q = 36 → y.2 q i = x.2 q i) : Nm F S y := by
  obtain ⟨a, b, c, d, e, f⟩ := h
  exact ⟨h0.trans a, b, fun i hi => (h2 35 i (Or.inl rfl)).trans (c i hi), h1.trans d, e, fun i hi => (h2 36 i (Or.inr rfl)).trans (f i hi)⟩
theorem rk_adv {F S c : Nat} {x : XS} {t : Tok} {ts : List Tok} (h : Rk F S x (t :: ts) c) : Rk F S (adv x) ts c ∧ Ad x (adv x) c [] := by
  obtain ⟨a, b, d, e⟩ := h
  refine ⟨⟨a.nxt, ?_, ?_, e.of ?_ ?_ (fun _ _ _ => rfl)⟩, fun q k u v w => ?_, rfl, fun q k u v w => ?_, CdA.nil⟩
  · exact (rdI_nk (by decide)).trans b
  · exact (rdI_ne (by decide)).trans d
  · exact rdI_ne (by decide)
  · exact rdI_ne (by decide)
  · exact rdI_ne u
  · exact rdI_ne (by omega)
theorem addCo_eq {x : XS} {c : Nat} (hc : x.1 8 12 = nI c) (hl : c < 400) (op f s : Int32) : addCoF x op f s = setI (setI (setI (setI x 18 c op) 19 c f) 20 c s) 8 12 (nI (c + 1)) := by
  unfold addCoF
  rw [hc, if_neg (nI_pos (by omega)), if_neg (c400 hl), nI_clamp (by omega), show nI c + 1 = nI (c + 1) from nI_addN c 1]
theorem rk_co {F S c : Nat} {x : XS} {ts : List Tok} (h : Rk F S x ts c) (hl : c < 400) (op f s : Int32) : Rk F S (addCoF x op f s) ts (c + 1) ∧ Ad x (addCoF x op f s) c [(op, f, s)] := by
  obtain ⟨a, b, d, e⟩ := h
  rw [addCo_eq d hl]
  have g : ∀ q k, ¬ (18 ≤ q ∧ q ≤ 20) → ¬ (q = 8 ∧ k = 12) → (setI (setI (setI (setI x 18 c op) 19 c f) 20 c s) 8 12 (nI (c + 1))).1 q k = x.1 q k := fun q k u v => by
    rw [rdI, if_neg v, rdI_ne (by omega), rdI_ne (by omega), rdI_ne (by omega)]
  refine ⟨⟨a.of (g _ _ (by omega) (by omega)) (g _ _ (by omega) (by omega)) (fun k => g _ _ (by omega) (by omega)) (fun _ => rfl), (g _ _ (by omega) (by omega)).trans b, rdI_eq, e.of (g _ _ (by omega) (by omega)) (g _ _ (by omega) (by omega)) (fun _ _ _ => rfl)⟩, fun q k u v w => g q k v w, rfl, fun q k u v w => ?_, fun i hi => ?_⟩
  · rw [rdI_ne (by omega), rdI_nk (by omega), rdI_nk (by omega), rdI_nk (by omega)]
  · have : i = 0 := by rw [List.length_singleton] at hi; omega
    subst this
    rw [Nat.add_zero]
    refine ⟨?_, fun _ => ?_, fun _ => ?_⟩
    · rw [rdI_ne (by decide), rdI_ne (by decide), rdI_ne (by decide)]; exact rdI_eq
    · rw [rdI_ne (by decide), rdI_ne (by decide)]; exact rdI_eq
    · rw [rdI_ne (by decide)]; exact rdI_eq
theorem take_y {F S c : Nat} {x : XS} {t : Tok} {ts : List Tok} {k : Int32} (h : Rk F S x (t :: ts) c) (e : t.1 = k) : takeU x k = (true, adv x) := by
  unfold takeU
  rw [h.1.next]
  exact if_pos (decide_eq_true e)
theorem take_n {F S c : Nat} {x : XS} {ts : List Tok} {k : Int32} (h : Rk F S x ts c) (e : hk ts ≠ k) : takeU x k = (false, x) := by
  unfold takeU
  rw [h.1.next, decide_eq_false e]
  exact if_neg Bool.false_ne_true
theorem deep_y {F S c : Nat} {x : XS} {t : Tok} {ts : List Tok} {k d : Int32} (h : Rk F S x (t :: ts) c) (e : t.1 = k) (hd : ¬ 8 ≤ d) : deepU x k d = (true, adv x) := by
  unfold deepU
  rw [if_neg hd, h.1.next]
  exact if_pos (decide_eq_true e)
/-- a reader takes these tokens and leaves this code -/
def RD (F S : Nat) (P : XS → Bool × XS) (ts us : List Tok) (l : List Cod) : Prop := ∀ x c, Rk F S x ts c → c + l.length ≤ 400 → ∃ y, P x = (true, y) ∧ Rk F S y us (c + l.length) ∧ Ad x y c l
section RDs
variable {F S : Nat} {R V : XS → Bool × XS} {ts us vs ws : List Tok} {l m n : List Cod} {d : Int32}
theorem rd_leaf {t : Tok} (h : t.1 = 259 ∨ t.1 = 315 ∨ t.1 = 316 ∨ t.1 = 317 ∨ t.1 = 318) : RD F S (valS d R) (t :: ts) ts [(t.1, t.2.toInt32, 0)] := by
  intro x c hx hc
  have hc' : c < 400 := by rw [List.length_singleton] at hc; omega
  obtain ⟨a1, a2⟩ := rk_co hx hc' t.1 t.2.toInt32 0
  obtain ⟨b1, b2⟩ := rk_adv a1
  refine ⟨_, ?_, b1, a2.trans1 b2⟩
  unfold valS
  dsimp only
  rw [hx.1.cur, show hk (t :: ts) = t.1 from rfl, hx.1.val]
  generalize t.2.toInt32 = v
  generalize t.1 = k at h
  rcases h with rfl | rfl | rfl | rfl | rfl
  · rw [if_neg (by decide), if_neg (by decide), if_pos rfl]
  · rw [if_neg (by decide), if_neg (by decide), if_neg (by decide), if_pos rfl]
  · rw [if_neg (by decide), if_neg (by decide), if_neg (by decide), if_neg (by decide), if_pos rfl]
  · rw [if_neg (by decide), if_neg (by decide), if_neg (by decide), if_neg (by decide), if_neg (by decide), if_pos rfl]
  · rw [if_neg (by decide), if_neg (by decide), if_neg (by decide), if_neg (by decide), if_neg (by decide), if_neg (by decide), if_pos rfl]
theorem rdl_stop {o1 o2 : Int32} (h1 : hk ts ≠ o1) (h2 : hk ts ≠ o2) : ∀ r, RD F S (op2L o1 o2 R r) ts ts []
  | 0, x, c, hx, _ => ⟨x, rfl, hx, Ad.refl⟩
  | r + 1, x, c, hx, _ => by
    refine ⟨x, ?_, hx, Ad.refl⟩
    rw [op2L, hx.1.next, hx.1.next, decide_eq_false h1, decide_eq_false h2]; rfl
theorem rdl_cons {o1 o2 : Int32} {t : Tok} {r : Nat} (h : t.1 = o1 ∨ t.1 = o2) (hR : RD F S R us vs l) (hL : RD F S (op2L o1 o2 R r) vs ws m) : RD F S (op2L o1 o2 R (r + 1)) (t :: us) ws (l ++ (t.1, 0, 0) :: m) := by
  intro x c hx hc
  rw [List.length_append, List.length_cons] at hc
  obtain ⟨a1, a2⟩ := rk_adv hx
  obtain ⟨y, e1, b1, b2⟩ := hR _ c a1 (by omega)
  obtain ⟨c1, c2⟩ := rk_co b1 (by omega) t.1 0 0
  obtain ⟨z, e2, d1, d2⟩ := hL _ _ c1 (by omega)
  have hcur : curK x = t.1 := hx.1.cur
  refine ⟨z, ?_, ?_, ?_⟩
  · have ho : (nextB x o1 || nextB x o2) = true := by
      rw [hx.1.next, hx.1.next, Bool.or_eq_true]
      exact h.imp (fun e => decide_eq_true e) (fun e => decide_eq_true e)
    rw [op2L, if_pos ho, e1]
    dsimp only
    rw [if_pos rfl, hcur]; exact e2
  · rw [List.length_append, List.length_cons, show c + (l.length + (m.length + 1)) = c + l.length + 1 + m.length by omega]; exact d1
  · exact a2.trans0 (b2.trans (c2.trans (l := [(t.1, 0, 0)]) d2))
theorem rd_op2 {o1 o2 : Int32} (hR : RD F S R ts us l) (hL : RD F S (op2L o1 o2 R 400) us vs m) : RD F S (op2U o1 o2 R) ts vs (l ++ m) := by
  intro x c hx hc
  rw [List.length_append] at hc
  obtain ⟨y, e1, b1, b2⟩ := hR x c hx (by omega)
  obtain ⟨z, e2, d1, d2⟩ := hL _ _ b1 (by omega)
  refine ⟨z, ?_, ?_, b2.trans d2⟩
  · unfold op2U
    rw [e1]
    dsimp only
    rw [if_pos rfl]; exact e2
  · rw [List.length_append, show c + (l.length + m.length) = c + l.length + m.length by omega]; exact d1
theorem rd_one {o1 o2 : Int32} (hR : RD F S R ts us l) (h1 : hk us ≠ o1) (h2 : hk us ≠ o2) : RD F S (op2U o1 o2 R) ts us l := by
  have := rd_op2 hR (rdl_stop (F := F) (S := S) (R := R) h1 h2 400)
  rw [List.append_nil] at this; exact this
theorem rdo_stop {o : Int32} (h1 : hk ts ≠ o) : ∀ r, RD F S (opsL o R r) ts ts []
  | 0, x, c, hx, _ => ⟨x, rfl, hx, Ad.refl⟩
  | r + 1, x, c, hx, _ => by
    refine ⟨x, ?_, hx, Ad.refl⟩
    rw [opsL, take_n hx h1]; rfl
theorem rdo_cons {o : Int32} {t : Tok} {r : Nat} (h : t.1 = o) (hR : RD F S R us vs l) (hL : RD F S (opsL o R r) vs ws m) : RD F S (opsL o R (r + 1)) (t :: us) ws (l ++ (o, 0, 0) :: m) := by
  intro x c hx hc
  rw [List.length_append, List.length_cons] at hc
  obtain ⟨a1, a2⟩ := rk_adv hx
  obtain ⟨y, e1, b1, b2⟩ := hR _ c a1 (by omega)
  obtain ⟨c1, c2⟩ := rk_co b1 (by omega) o 0 0
  obtain ⟨z, e2, d1, d2⟩ := hL _ _ c1 (by omega)
  refine ⟨z, ?_, ?_, ?_⟩
  · rw [opsL, take_y hx h]
    dsimp only
    rw [if_pos rfl, e1]
    dsimp only
    rw [if_pos rfl]; exact e2
  · rw [List.length_append, List.length_cons, show c + (l.length + (m.length + 1)) = c + l.length + 1 + m.length by omega]; exact d1
  · exact a2.trans0 (b2.trans (c2.trans (l := [(o, 0, 0)]) d2))
theorem rd_ops {o : Int32} (hR : RD F S R ts us l) (hL : RD F S (opsL o R 400) us vs m) : RD F S (opsU o R) ts vs (l ++ m) := by
  intro x c hx hc
  rw [List.length_append] at hc
  obtain ⟨y, e1, b1, b2⟩ := hR x c hx (by omega)
  obtain ⟨z, e2, d1, d2⟩ := hL _ _ b1 (by omega)
  refine ⟨z, ?_, ?_, b2.trans d2⟩
  · unfold opsU
    rw [e1]
    dsimp only
    rw [if_pos rfl]; exact e2
  · rw [List.length_append, show c + (l.length + m.length) = c + l.length + m.length by omega]; exact d1
theorem rd_one' {o : Int32} (hR : RD F S R ts us l) (h1 : hk us ≠ o) : RD F S (opsU o R) ts us l := by
  have := rd_ops hR (rdo_stop (F := F) (S := S) (R := R) h1 400)
  rw [List.append_nil] at this; exact this
/-- a comparison -/
theorem rd_cmp {t : Tok} (h : hk ts ≠ 91 ∧ hk ts ≠ 319 ∧ hk ts ≠ 320 ∧ hk ts ≠ 321 ∧ hk ts ≠ 323) (hc : cmpK t.1 = true) (h1 : RD F S (sumU V) ts (t :: us) l) (h2 : RD F S (sumU V) us vs m) : RD F S (sinS d R V) ts vs (l ++ (m ++ [(t.1, 0, 0)])) := by
  intro x c hx hl
  rw [List.length_append, List.length_append, List.length_singleton] at hl
  obtain ⟨y, e1, b1, b2⟩ := h1 x c hx (by omega)
  obtain ⟨a1, a2⟩ := rk_adv b1
  obtain ⟨z, e2, d1, d2⟩ := h2 _ _ a1 (by omega)
  obtain ⟨c1, c2⟩ := rk_co d1 (by omega) t.1 0 0
  refine ⟨_, ?_, ?_, b2.trans (a2.trans0 (d2.trans c2))⟩
  · have hcur : curK y = t.1 := b1.1.cur
    unfold sinS
    dsimp only
    rw [hx.1.cur, if_neg h.1, if_neg h.2.1, if_neg h.2.2.1, if_neg h.2.2.2.1, if_neg h.2.2.2.2, e1]
    dsimp only
    rw [if_pos rfl, hcur, if_pos hc, e2]
    dsimp only
    rw [if_pos rfl]
  · rw [List.length_append, List.length_append, List.length_singleton, show c + (l.length + (m.length + 1)) = c + l.length + m.length + 1 by omega]; exact c1
theorem rd_brk {t u : Tok} (ht : t.1 = 91) (hu : u.1 = 93) (hd : ¬ 8 ≤ d) (h1 : RD F S (testU R) ts (u :: us) l) : RD F S (sinS d R V) (t :: ts) us l := by
  intro x c hx hl
  obtain ⟨a1, a2⟩ := rk_adv hx
  obtain ⟨y, e1, b1, b2⟩ := h1 _ c a1 hl
  obtain ⟨c1, c2⟩ := rk_adv b1
  refine ⟨_, ?_, c1, a2.trans0 (b2.trans1 c2)⟩
  unfold sinS
  dsimp only
  rw [hx.1.cur, if_pos (show hk (t :: ts) = 91 from ht), deep_y hx ht hd]
  dsimp only
  rw [if_pos rfl, e1]
  dsimp only
  rw [if_pos rfl, take_y b1 hu]
theorem rd_not {t : Tok} (ht : t.1 = 323) (hd : ¬ 8 ≤ d) (h1 : RD F S R ts us l) : RD F S (sinS d R V) (t :: ts) us (l ++ [(323, 0, 0)]) := by
  intro x c hx hl
  rw [List.length_append, List.length_singleton] at hl
  obtain ⟨a1, a2⟩ := rk_adv hx
  obtain ⟨y, e1, b1, b2⟩ := h1 _ c a1 (by omega)
  obtain ⟨c1, c2⟩ := rk_co b1 (by omega) 323 0 0
  have hq : hk (t :: ts) = 323 := ht
  refine ⟨_, ?_, ?_, a2.trans0 (b2.trans c2)⟩
  · unfold sinS
    dsimp only
    rw [hx.1.cur, hq, if_neg (by decide), if_neg (by decide), if_neg (by decide), if_neg (by decide), if_pos rfl, deep_y hx ht hd]
    dsimp only
    rw [if_pos rfl, e1]
    dsimp only
    rw [if_pos rfl]
  · rw [List.length_append, List.length_singleton, show c + (l.length + 1) = c + l.length + 1 by omega]; exact c1
end RDs
/-! Names -/
theorem findL_hit {x : XS} {q t : Nat} {nm : Int64} : ∀ r j, j ≤ t → t < j + r → (∀ i, j ≤ i → i < t → x.2 q i ≠ nm) → x.2 q t = nm → findL x q nm r j = nI t
  | 0, j, h1, h2, _, _ => by omega
  | r + 1, j, h1, h2, h3, h4 => by
    rw [findL]
    by_cases e : j = t
    · subst e; rw [if_pos h4]
    · rw [if_neg (h3 j (Nat.le_refl _) (by omega))]
      exact findL_hit r (j + 1) (by omega) (by omega) (fun i a b => h3 i (by omega) b) h4
theorem findL_miss {x : XS} {q : Nat} {nm : Int64} : ∀ r j, (∀ i, j ≤ i → i < j + r → x.2 q i ≠ nm) → findL x q nm r j = -1
  | 0, j, _ => rfl
  | r + 1, j, h => by
    rw [findL, if_neg (h j (Nat.le_refl _) (by omega))]
    exact findL_miss r (j + 1) (fun i a b => h i (by omega) (by omega))
theorem find_fam {F S : Nat} {x : XS} (h : Nm F S x) {f : Nat} (hf : f < F) : findF x 35 10 (nI F) (nmFa f) = nI f := by
  obtain ⟨a, b, c, -⟩ := h
  unfold findF
  rw [nI_clamp (by omega)]
  refine findL_hit _ 0 (Nat.zero_le _) (by omega) (fun i _ hi e => ?_) (c f hf)
  rw [c i (by omega)] at e
  have := nmFa_inj i (by omega) f (by omega) e
  omega
theorem find_stm {F S : Nat} {x : XS} (h : Nm F S x) {f : Nat} (hf : f < S) : findF x 36 20 (nI S) (nmSt f) = nI f := by
  obtain ⟨-, -, -, a, b, c⟩ := h
  unfold findF
  rw [nI_clamp (by omega)]
  refine findL_hit _ 0 (Nat.zero_le _) (by omega) (fun i _ hi e => ?_) (c f hf)
  rw [c i (by omega)] at e
  have := nmSt_inj i (by omega) f (by omega) e
  omega
theorem miss_fam {F S : Nat} {x : XS} (h : Nm F S x) (hf : F < 10) : findF x 35 10 (nI F) (nmFa F) = -1 := by
  obtain ⟨a, b, c, -⟩ := h
  unfold findF
  rw [nI_clamp (by omega)]
  refine findL_miss _ 0 (fun i _ hi e => ?_)
  rw [c i (by omega)] at e
  have := nmFa_inj i (by omega) F (by omega) e
  omega
theorem miss_stm {F S : Nat} {x : XS} (h : Nm F S x) (hf : S < 20) : findF x 36 20 (nI S) (nmSt S) = -1 := by
  obtain ⟨-, -, -, a, b, c⟩ := h
  unfold findF
  rw [nI_clamp (by omega)]
  refine findL_miss _ 0 (fun i _ hi e => ?_)
  rw [c i (by omega)] at e
  have := nmSt_inj i (by omega) S (by omega) e
  omega
theorem max0 {n : Nat} (h : n < 2 ^ 31) : maxI (nI n) 0 = nI n := if_neg (nI_pos h)
theorem kn_fam {F S c f : Nat} {x : XS} {ts : List Tok} (h : Rk F S x (fmX f :: ts) c) (hf : f < F) : knownU x 35 10 (x.1 8 0) = (nI f, adv x) := by
  have hN := h.2.2.2
  have hF := hN.2.1
  unfold knownU
  rw [h.1.next, if_pos (decide_eq_true (show hk (fmX f :: ts) = 258 from rfl)), hN.1, h.1.val]
  dsimp only
  rw [show findF x 35 10 (nI F) (fmX f).2 = nI f from find_fam hN hf, max0 (by omega), if_neg (nI_pos (by omega))]
theorem kn_stm {F S c f : Nat} {x : XS} {ts : List Tok} (h : Rk F S x (stX f :: ts) c) (hf : f < S) : knownU x 36 20 (x.1 8 1) = (nI f, adv x) := by
  have hN := h.2.2.2
  have hF := hN.2.2.2.2.1
  unfold knownU
  rw [h.1.next, if_pos (decide_eq_true (show hk (stX f :: ts) = 258 from rfl)), hN.2.2.2.1, h.1.val]
  dsimp only
  rw [show findF x 36 20 (nI S) (stX f).2 = nI f from find_stm hN hf, max0 (by omega), if_neg (nI_pos (by omega))]
theorem two_mul_nI (n : Nat) : 2 * nI n = nI (2 * n) := (Int32.ofNat_mul 2 n).symm
theorem cl_ok {F S c k : Nat} {x : XS} {ts : List Tok} (h : Rk F S x (clX c ++ ts) k) (hc : c < 2 * F) : ∃ y, claimU x = (nI c, y) ∧ Rk F S y ts k ∧ Ad x y k [] := by
  have h' : Rk F S x (fmX (c / 2) :: (kwX (10 + c % 2) :: ts)) k := h
  have hF := h.2.2.2.2.1
  obtain ⟨a1, a2⟩ := rk_adv h'
  obtain ⟨b1, b2⟩ := rk_adv a1
  refine ⟨_, ?_, b1, a2.trans0 b2⟩
  unfold claimU
  rw [kn_fam h' (by omega)]
  dsimp only
  rw [if_neg (nI_pos (by omega)), two_mul_nI]
  by_cases e : c % 2 = 0
  · rw [e] at a1
    rw [take_y a1 (by decide)]
    dsimp only
    rw [if_pos rfl, show 2 * (c / 2) = c by omega]
  · rw [show c % 2 = 1 by omega] at a1
    rw [take_n a1 (hk_ne (by decide))]
    dsimp only
    rw [if_neg Bool.false_ne_true, take_y a1 (by decide)]
    dsimp only
    rw [if_pos rfl, show nI (2 * (c / 2)) + 1 = nI (2 * (c / 2) + 1) from nI_addN _ 1, show 2 * (c / 2) + 1 = c by omega]
section RDt
variable {F S : Nat} {R V : XS → Bool × XS} {ts us vs ws : List Tok} {l m n : List Cod} {d : Int32}
theorem rd_pos {c : Nat} (hc : c < 2 * F) : RD F S (sinS d R V) (kwX 19 :: (clX c ++ ts)) ts [(319, nI c, 0)] := by
  intro x k hx hl
  rw [List.length_singleton] at hl
  obtain ⟨a1, a2⟩ := rk_adv hx
  obtain ⟨y, e1, b1, b2⟩ := cl_ok a1 hc
  have hF := hx.2.2.2.2.1
  obtain ⟨c1, c2⟩ := rk_co b1 (by omega) 319 (nI c) 0
  refine ⟨_, ?_, c1, a2.trans0 (b2.trans0 c2)⟩
  have hq : hk (kwX 19 :: (clX c ++ ts)) = 319 := by show (300 : Int32) + nI 19 = 319; decide
  unfold sinS
  dsimp only
  rw [hx.1.cur, hq, if_neg (by decide), if_pos rfl, e1]
  dsimp only
  rw [if_neg (nI_pos (by omega))]
theorem rd_sta {c : Nat} (hc : c < S) : RD F S (sinS d R V) (kwX 20 :: stX c :: ts) ts [(320, nI c, 0)] := by
  intro x k hx hl
  rw [List.length_singleton] at hl
  obtain ⟨a1, a2⟩ := rk_adv hx
  obtain ⟨b1, b2⟩ := rk_adv a1
  have hS := hx.2.2.2.2.2.2.2.1
  obtain ⟨c1, c2⟩ := rk_co b1 (by omega) 320 (nI c) 0
  refine ⟨_, ?_, c1, a2.trans0 (b2.trans0 c2)⟩
  have hq : hk (kwX 20 :: stX c :: ts) = 320 := by show (300 : Int32) + nI 20 = 320; decide
  unfold sinS
  dsimp only
  rw [hx.1.cur, hq, if_neg (by decide), if_neg (by decide), if_pos rfl, kn_stm a1 hc]
  dsimp only
  rw [if_neg (nI_pos (by omega))]
theorem rd_fol {c e : Nat} (hc : c < 2 * F) (he : e < 2 * F) : RD F S (sinS d R V) (kwX 21 :: (clX c ++ kwX 22 :: (clX e ++ ts))) ts [(321, nI c, nI e)] := by
  intro x k hx hl
  rw [List.length_singleton] at hl
  obtain ⟨a1, a2⟩ := rk_adv hx
  obtain ⟨y, e1, b1, b2⟩ := cl_ok a1 hc
  obtain ⟨c1, c2⟩ := rk_adv b1
  obtain ⟨z, e2, d1, d2⟩ := cl_ok c1 he
  have hF := hx.2.2.2.2.1
  obtain ⟨g1, g2⟩ := rk_co d1 (by omega) 321 (nI c) (nI e)
  refine ⟨_, ?_, g1, a2.trans0 (b2.trans0 (c2.trans0 (d2.trans0 g2)))⟩
  have hq : hk (kwX 21 :: (clX c ++ kwX 22 :: (clX e ++ ts))) = 321 := by show (300 : Int32) + nI 21 = 321; decide
  have hf : frU (nI c, y) = (nI e, z) := by
    unfold frU
    dsimp only
    rw [if_neg (nI_pos (by omega)), take_y b1 (by decide)]
    dsimp only
    rw [if_pos rfl, e2]
  unfold sinS
  dsimp only
  rw [hx.1.cur, hq, if_neg (by decide), if_neg (by decide), if_neg (by decide), if_pos rfl, e1, hf]
  dsimp only
  rw [if_neg (nI_pos (by omega))]
end RDt
