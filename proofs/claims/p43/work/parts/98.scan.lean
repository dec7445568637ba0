/-! Bytes of the tape from a place on, as a list; what the scanner makes of them -/
def TL (x : XS) (p : Nat) (s : List Int32) : Prop := x.1 1 1 = nI (p + s.length) ∧ p + s.length ≤ 2000 ∧ Asc s ∧ ∀ i, i < s.length → x.1 2 (p + i) = s.getD i 0
theorem TL.of {x y : XS} {p : Nat} {s : List Int32} (h : TL x p s) (h1 : y.1 1 1 = x.1 1 1) (h2 : ∀ j, y.1 2 j = x.1 2 j) : TL y p s :=
  ⟨h1.trans h.1, h.2.1, h.2.2.1, fun i hi => (h2 _).trans (h.2.2.2 i hi)⟩
theorem TL.tail {x : XS} {p : Nat} {b : Int32} {s : List Int32} (h : TL x p (b :: s)) : TL x (p + 1) s := by
  obtain ⟨a, b', c, d⟩ := h
  rw [List.length_cons] at a b'
  refine ⟨by rw [a]; exact congrArg nI (by omega), by omega, fun v hv => c v (List.mem_cons_of_mem _ hv), fun i hi => ?_⟩
  have := d (i + 1) (by rw [List.length_cons]; omega)
  rw [List.getD_cons_succ] at this
  rw [← this]; exact congrArg (x.1 2) (by omega)
theorem TL.app {x : XS} {s : List Int32} : ∀ {w : List Int32} {p : Nat}, TL x p (w ++ s) → TL x (p + w.length) s
  | [], _, h => h
  | b :: w, p, h => by
    have := TL.app (w := w) (p := p + 1) (TL.tail h)
    rw [List.length_cons, show p + (w.length + 1) = p + 1 + w.length by omega]; exact this
theorem asc255 : ∀ n, n < 128 → nI n &&& 255 = nI n := by decide +kernel
theorem TL.at {x : XS} {p : Nat} {s : List Int32} (h : TL x p s) : atF x (nI p) = s.headD (-1) := by
  obtain ⟨a, b, c, d⟩ := h
  unfold atF
  rw [if_neg (nI_pos (by omega)), a]
  cases s with
  | nil => rw [if_pos (show nI (p + ([] : List Int32).length) ≤ nI p from Int32.le_refl _)]; rfl
  | cons v s =>
    rw [List.length_cons] at b ⊢
    rw [if_neg (fun q => by have := (nI_leq (by omega) (by omega)).mp q; omega), if_neg (fun q => by have := (nI_leq (by omega) (by omega)).mp q; omega), nI_clamp (by omega)]
    have := d 0 (by rw [List.length_cons]; omega)
    rw [Nat.add_zero] at this
    rw [this]
    obtain ⟨n, hn, hv⟩ := c v List.mem_cons_self
    show v &&& 255 = v
    rw [hv]; exact asc255 n hn
theorem TL.at1 {x : XS} {p : Nat} {b : Int32} {s : List Int32} (h : TL x p (b :: s)) : atF x (nI p) = b := TL.at h
theorem TL.le {x : XS} {p : Nat} {b : Int32} {s : List Int32} (h : TL x p (b :: s)) (h5 : x.1 3 5 = nI p) : ¬ x.1 1 1 ≤ x.1 3 5 := by
  rw [h.1, h5]
  have := h.2.1
  rw [List.length_cons] at this ⊢
  exact fun q => by have := (nI_leq (by omega) (by omega)).mp q; omega
theorem TL.left {x : XS} {p : Nat} {s : List Int32} (h : TL x p s) (h5 : x.1 3 5 = nI p) : leftN x = s.length := by
  have := h.2.1
  unfold leftN
  rw [h.1, h5, nI_toInt (by omega), nI_toInt (by omega)]; omega
def NX (x y : XS) (q : Nat) (v : Int64) : Prop := (∀ i k, ¬ (i = 3 ∧ k = 5) → y.1 i k = x.1 i k) ∧ y.1 3 5 = nI q ∧ (∀ i k, ¬ (i = 3 ∧ k = 6) → y.2 i k = x.2 i k) ∧ y.2 3 6 = v
def Alv (v : Int32) : Bool := letB v || digB v
theorem NX.trans {x y z : XS} {q q' : Nat} {v v' : Int64} (h : NX x y q v) (g : NX y z q' v') : NX x z q' v' :=
  ⟨fun i k a => (g.1 i k a).trans (h.1 i k a), g.2.1, fun i k a => (g.2.2.1 i k a).trans (h.2.2.1 i k a), g.2.2.2⟩
theorem NX.refl {x : XS} {q : Nat} (h : x.1 3 5 = nI q) : NX x x q (x.2 3 6) := ⟨fun _ _ _ => rfl, h, fun _ _ _ => rfl, rfl⟩
theorem NX.put {y : XS} {q : Nat} {v : Int64} : NX y (setI (setL y 3 6 v) 3 5 (nI q)) q v := by
  refine ⟨fun i k g => ?_, rdI_eq, fun i k g => ?_, show (setL y 3 6 v).2 3 6 = v from rdL_eq⟩
  · rw [rdI, if_neg g]; rfl
  · show (setL y 3 6 v).2 i k = _
    by_cases hi : i = 3
    · exact rdL_nk (fun hk => g ⟨hi, hk⟩)
    · exact rdL_ne hi
theorem NX.mv {y : XS} {q : Nat} : NX y (setI y 3 5 (nI q)) q (y.2 3 6) := ⟨fun i k g => by rw [rdI, if_neg g], rdI_eq, fun _ _ _ => rfl, rfl⟩
theorem TL.nx {x y : XS} {p q : Nat} {v : Int64} {s : List Int32} (h : TL x p s) (g : NX x y q v) : TL y p s := h.of (g.1 1 1 (by omega)) (fun j => g.1 2 j (by omega))
theorem inc_p (p : Nat) : nI p + 1 = nI (p + 1) := nI_addN p 1
theorem word_l {s : List Int32} (hs : Alv (s.headD (-1)) = false) : ∀ (w : List Int32) (y : XS) (p m : Nat), TL y p (w ++ s) → y.1 3 5 = nI p → m = (w ++ s).length → (∀ b ∈ w, Alv b = true) → NX y (wordL m y) (p + w.length) (w.foldl packF (y.2 3 6))
  | [], y, p, 0, hT, h5, hm, _ => NX.refl h5
  | [], y, p, m + 1, hT, h5, hm, _ => by
    rw [wordL, h5, TL.at hT]
    have hs' : ¬ (letB (([] ++ s).headD (-1)) || digB (([] ++ s).headD (-1))) = true := by
      intro h; have : Alv (s.headD (-1)) = true := h
      rw [hs] at this; cases this
    rw [if_neg hs', ite_self]
    exact NX.refl h5
  | b :: w, y, p, 0, hT, h5, hm, _ => by simp at hm
  | b :: w, y, p, m + 1, hT, h5, hm, hw => by
    have hb : (letB b || digB b) = true := hw b List.mem_cons_self
    have hT' : TL y p (b :: (w ++ s)) := hT
    rw [wordL, if_neg (TL.le hT' h5), h5, TL.at1 hT']
    rw [if_pos hb, inc_p]
    have hp : NX y (setI (setL y 3 6 (packF (y.2 3 6) b)) 3 5 (nI (p + 1))) (p + 1) (packF (y.2 3 6) b) := NX.put
    have ih := word_l hs w _ (p + 1) m (hT'.tail.nx hp) hp.2.1 (by simp at hm ⊢; omega) (fun v hv => hw v (List.mem_cons_of_mem _ hv))
    rw [hp.2.2.2] at ih
    rw [List.length_cons, show p + (w.length + 1) = p + 1 + w.length by omega]
    exact hp.trans ih
def nmF (v : Int64) (b : Int32) : Int64 := v * 10 + (b - 48).toInt64
theorem num_l {s : List Int32} (hs : digB (s.headD (-1)) = false) : ∀ (w : List Int32) (y : XS) (p m : Nat), TL y p (w ++ s) → y.1 3 5 = nI p → m = (w ++ s).length → (∀ b ∈ w, digB b = true) → NX y (numL m y) (p + w.length) (w.foldl nmF (y.2 3 6))
  | [], y, p, 0, hT, h5, hm, _ => NX.refl h5
  | [], y, p, m + 1, hT, h5, hm, _ => by
    rw [numL, h5, TL.at hT]
    have hs' : ¬ digB (([] ++ s).headD (-1)) = true := by
      intro h; have : digB (s.headD (-1)) = true := h
      rw [hs] at this; cases this
    rw [if_neg hs', ite_self]
    exact NX.refl h5
  | b :: w, y, p, 0, hT, h5, hm, _ => by simp at hm
  | b :: w, y, p, m + 1, hT, h5, hm, hw => by
    have hb : digB b = true := hw b List.mem_cons_self
    have hT' : TL y p (b :: (w ++ s)) := hT
    rw [numL, if_neg (TL.le hT' h5), h5, TL.at1 hT']
    rw [if_pos hb, inc_p]
    have hp : NX y (setI (setL y 3 6 (nmF (y.2 3 6) b)) 3 5 (nI (p + 1))) (p + 1) (nmF (y.2 3 6) b) := NX.put
    have ih := num_l hs w _ (p + 1) m (hT'.tail.nx hp) hp.2.1 (by simp at hm ⊢; omega) (fun v hv => hw v (List.mem_cons_of_mem _ hv))
    rw [hp.2.2.2] at ih
    rw [List.length_cons, show p + (w.length + 1) = p + 1 + w.length by omega]
    exact hp.trans ih
theorem skip_stop {x : XS} {p : Nat} {s : List Int32} (hT : TL x p s) (h5 : x.1 3 5 = nI p) (h1 : s.headD (-1) ≠ 32) (h2 : s.headD (-1) ≠ 10) : skipF x = x := by
  unfold skipF
  cases leftN x with
  | zero => rfl
  | succ m => rw [skipL, h5, TL.at hT, if_neg h1, if_neg h2, ite_self]
theorem skip_step {x : XS} {p : Nat} {b : Int32} {s : List Int32} (hT : TL x p (b :: s)) (h5 : x.1 3 5 = nI p) (hb : b = 32 ∨ b = 10) : skipF x = skipF (setI x 3 5 (nI (p + 1))) := by
  unfold skipF
  rw [TL.left hT h5, TL.left (hT.tail.nx NX.mv) rdI_eq, List.length_cons, skipL, if_neg (TL.le hT h5), h5, TL.at1 hT, inc_p]
  rcases hb with rfl | rfl
  · rw [if_pos rfl]
  · rw [if_neg (by decide), if_pos rfl]
/-! One token -/
theorem s0_ne {x : XS} {c p q k : Nat} (h : q ≠ 6) : (setL (setI x 6 c (nI p)) 3 6 0).1 q k = x.1 q k := if_neg (fun z => h z.1)
theorem s0_l {x : XS} {c p q k : Nat} (h : q ≠ 3) : (setL (setI x 6 c (nI p)) 3 6 0).2 q k = x.2 q k := if_neg (fun z => h z.1)
def NXT (x y : XS) (c q : Nat) (k : Int32) (v : Int64) : Prop := y.1 3 4 = nI (c + 1) ∧ y.1 3 5 = nI q ∧ y.1 5 c = k ∧ y.2 7 c = v ∧ (∀ i j, i ≠ 3 → i ≠ 6 → ¬ (i = 5 ∧ j = c) → y.1 i j = x.1 i j) ∧ ∀ i j, i ≠ 3 → ¬ (i = 7 ∧ j = c) → y.2 i j = x.2 i j
theorem scan_step {x y : XS} {n c p q : Nat} {kd k : Int32} {v : Int64} (h4 : x.1 3 4 = nI c) (hc : c ≤ 400) (h0 : kd ≠ 260) (h1 : kd ≠ 261) (hs : skipF x = x) (h5 : x.1 3 5 = nI p) (ht : tokU (setL (setI x 6 c (nI p)) 3 6 0) = (k, y)) (hy : NX (setL (setI x 6 c (nI p)) 3 6 0) y q v) : ∃ X, scanL (n + 1) kd x = scanL n k X ∧ NXT x X c q k v := by
  obtain ⟨y1, y2, y3, y4⟩ := hy
  have e4 : y.1 3 4 = nI c := (y1 3 4 (by omega)).trans ((s0_ne (by decide)).trans h4)
  rw [scanL, h4, if_neg (fun q => by have := (nI_leq (by omega) (by omega)).mp q; omega), if_neg h0, if_neg h1, hs]
  dsimp only
  rw [h4, h5, nI_clamp (by omega), ht]
  dsimp only
  rw [e4, nI_clamp (by omega)]
  refine ⟨_, rfl, ?_, ?_, ?_, ?_, fun i j a b d => ?_, fun i j a b => ?_⟩
  · rw [rdI_eq]
    show (setI y 5 c k).1 3 4 + 1 = _
    rw [rdI_ne (by decide), e4, inc_p]
  · rw [rdI_nk (by decide)]
    show (setI y 5 c k).1 3 5 = _
    rw [rdI_ne (by decide)]; exact y2
  · rw [rdI_ne (by decide)]; exact rdI_eq
  · show (setL (setI y 5 c k) 7 (((setI y 5 c k).1 3 4).toNatClampNeg) ((setI y 5 c k).2 3 6)).2 7 c = v
    rw [rdI_ne (by decide), e4, nI_clamp (by omega), rdL_eq]; exact y4
  · rw [rdI_ne a]
    show (setI y 5 c k).1 i j = _
    rw [rdI, if_neg d, y1 i j (by omega)]
    exact s0_ne b
  · show (setL (setI y 5 c k) 7 (((setI y 5 c k).1 3 4).toNatClampNeg) ((setI y 5 c k).2 3 6)).2 i j = _
    rw [rdI_ne (by decide), e4, nI_clamp (by omega)]
    have e : (setL (setI y 5 c k) 7 c ((setI y 5 c k).2 3 6)).2 i j = y.2 i j := if_neg b
    rw [e, y3 i j (by omega)]
    exact s0_l a
def KeyT (kt : Nat → Int64) (x : XS) : Prop := ∀ j, j < 27 → x.2 4 j = kt j
def SR (x y : XS) (c : Nat) (l : List (Int32 × Int64)) : Prop := y.1 3 4 = nI (c + l.length + 1) ∧ (∀ i j, i ≠ 3 → i ≠ 5 → i ≠ 6 → y.1 i j = x.1 i j) ∧ (∀ i j, i ≠ 3 → i ≠ 7 → y.2 i j = x.2 i j) ∧ (∀ i, i < c → y.1 5 i = x.1 5 i ∧ y.2 7 i = x.2 7 i) ∧ (∀ i, i < l.length → y.1 5 (c + i) = (l.getD i (0, 0)).1 ∧ y.2 7 (c + i) = (l.getD i (0, 0)).2) ∧ y.1 5 (c + l.length) = 260
theorem SR.cons {x X y : XS} {c q : Nat} {k : Int32} {v : Int64} {l : List (Int32 × Int64)} (h : NXT x X c q k v) (g : SR X y (c + 1) l) : SR x y c ((k, v) :: l) := by
  obtain ⟨a1, a2, a3, a4, a5, a6⟩ := h
  obtain ⟨b1, b2, b3, b4, b5, b6⟩ := g
  refine ⟨by rw [b1, List.length_cons]; exact congrArg nI (by omega), fun i j u w z => (b2 i j u w z).trans (a5 i j u z (by omega)), fun i j u w => (b3 i j u w).trans (a6 i j u (by omega)), fun i hi => ?_, fun i hi => ?_, ?_⟩
  · obtain ⟨c1, c2⟩ := b4 i (by omega)
    exact ⟨c1.trans (a5 5 i (by decide) (by decide) (by omega)), c2.trans (a6 7 i (by decide) (by omega))⟩
  · cases i with
    | zero =>
      obtain ⟨c1, c2⟩ := b4 c (by omega)
      exact ⟨c1.trans a3, c2.trans a4⟩
    | succ i =>
      rw [List.length_cons] at hi
      rw [List.getD_cons_succ, show c + (i + 1) = c + 1 + i by omega]
      exact b5 i (by omega)
  · rw [List.length_cons, show c + (l.length + 1) = c + 1 + l.length by omega]; exact b6
/-- what the scanner makes of these bytes, to the end -/
def ScanTo (kt : Nat → Int64) (s : List Int32) (l : List (Int32 × Int64)) : Prop := ∀ (x : XS) (p c n : Nat) (kd : Int32), TL x p s → KeyT kt x → x.1 3 5 = nI p → x.1 3 4 = nI c → c + l.length < 400 → l.length + 1 ≤ n → kd ≠ 260 → kd ≠ 261 → SR x (scanL n kd x) c l
theorem scan_end (n : Nat) (x : XS) : scanL n 260 x = x := by
  cases n with
  | zero => rfl
  | succ n => rw [scanL, if_pos rfl, ite_self]
theorem sc_nil (kt : Nat → Int64) : ScanTo kt [] [] := by
  intro x p c n kd hT hK h5 h4 hc hn k0 k1
  obtain ⟨m, rfl⟩ : ∃ m, n = m + 1 := ⟨n - 1, by simp at hn; omega⟩
  have hT0 : TL (setL (setI x 6 c (nI p)) 3 6 0) p [] := hT.of (s0_ne (by decide)) (fun j => s0_ne (by decide))
  have h50 : (setL (setI x 6 c (nI p)) 3 6 0).1 3 5 = nI p := (s0_ne (by decide)).trans h5
  have ht : tokU (setL (setI x 6 c (nI p)) 3 6 0) = (260, setL (setI x 6 c (nI p)) 3 6 0) := by
    unfold tokU
    rw [h50, TL.at hT0]
    exact if_pos (by decide)
  obtain ⟨X, e, hX⟩ := scan_step (n := m) h4 (by simp at hc; omega) k0 k1 (skip_stop hT h5 (by decide) (by decide)) h5 ht (NX.refl h50)
  rw [e, scan_end]
  obtain ⟨a1, a2, a3, a4, a5, a6⟩ := hX
  exact ⟨a1, fun i j u w z => a5 i j u z (fun g => w g.1), fun i j u w => a6 i j u (fun g => w g.1), fun i hi => ⟨a5 5 i (by decide) (by decide) (by omega), a6 7 i (by decide) (by omega)⟩, fun i hi => absurd hi (Nat.not_lt_zero _), a3⟩
theorem sc_bl {kt : Nat → Int64} {b : Int32} {s : List Int32} {l : List (Int32 × Int64)} (hb : b = 32 ∨ b = 10) (h : ScanTo kt s l) : ScanTo kt (b :: s) l := by
  intro x p c n kd hT hK h5 h4 hc hn k0 k1
  have hm : NX x (setI x 3 5 (nI (p + 1))) (p + 1) (x.2 3 6) := NX.mv
  have h4' : (setI x 3 5 (nI (p + 1))).1 3 4 = nI c := (rdI_nk (by decide)).trans h4
  have e : scanL n kd x = scanL n kd (setI x 3 5 (nI (p + 1))) := by
    obtain ⟨m, rfl⟩ : ∃ m, n = m + 1 := ⟨n - 1, by omega⟩
    rw [scanL, scanL, h4, h4', skip_step hT h5 hb]
    have g : ¬ nI 401 ≤ nI c := fun q => by have := (nI_leq (by omega) (by omega)).mp q; omega
    rw [if_neg g, if_neg g, if_neg k0, if_neg k0, if_neg k1, if_neg k1]
  rw [e]
  obtain ⟨b1, b2, b3, b4, b5, b6⟩ := h _ (p + 1) c n kd (hT.tail.nx hm) (fun j hj => hK j hj) rdI_eq h4' hc hn k0 k1
  exact ⟨b1, fun i j u w z => (b2 i j u w z).trans (rdI_ne u), fun i j u w => (b3 i j u w), fun i hi => ⟨(b4 i hi).1.trans (rdI_ne (by decide)), (b4 i hi).2⟩, b5, b6⟩
/-- a token that the bytes w are -/
theorem sc_tok {kt : Nat → Int64} {w s : List Int32} {l : List (Int32 × Int64)} {k : Int32} {v : Int64} (h1 : (w ++ s).headD (-1) ≠ 32) (h2 : (w ++ s).headD (-1) ≠ 10) (k0 : k ≠ 260) (k1 : k ≠ 261)
    (ht : ∀ (x : XS) (p c : Nat), TL x p (w ++ s) → KeyT kt x → x.1 3 5 = nI p → x.1 3 4 = nI c → c < 400 → x.2 3 6 = 0 → ∃ y, tokU x = (k, y) ∧ NX x y (p + w.length) v) (h : ScanTo kt s l) : ScanTo kt (w ++ s) ((k, v) :: l) := by
  intro x p c n kd hT hK h5 h4 hc hn d0 d1
  rw [List.length_cons] at hc hn
  obtain ⟨m, rfl⟩ : ∃ m, n = m + 1 := ⟨n - 1, by omega⟩
  have hT0 : TL (setL (setI x 6 c (nI p)) 3 6 0) p (w ++ s) := hT.of (s0_ne (by decide)) (fun j => s0_ne (by decide))
  obtain ⟨y, e1, e2⟩ := ht (setL (setI x 6 c (nI p)) 3 6 0) p c hT0 (fun j hj => (s0_l (by decide)).trans (hK j hj)) ((s0_ne (by decide)).trans h5) ((s0_ne (by decide)).trans h4) (by omega) rdL_eq
  obtain ⟨X, e, hX⟩ := scan_step (n := m) h4 (by omega) d0 d1 (skip_stop hT h5 h1 h2) h5 e1 e2
  rw [e]
  exact SR.cons hX (h X (p + w.length) (c + 1) m k (hT.app.of (hX.2.2.2.2.1 1 1 (by decide) (by decide) (by omega)) (fun j => hX.2.2.2.2.1 2 j (by decide) (by decide) (by omega))) (fun j hj => (hX.2.2.2.2.2 4 j (by decide) (by omega)).trans (hK j hj)) hX.2.1 hX.1 (by omega) (by omega) k0 k1)
theorem TL.ge {x : XS} {p : Nat} {b : Int32} {s : List Int32} (h : TL x p (b :: s)) : ¬ b < 0 := by
  obtain ⟨n, hn, e⟩ := h.2.2.1 b List.mem_cons_self
  rw [e]; exact nI_pos (by omega)
theorem c400 {c : Nat} (h : c < 400) : ¬ (400 : Int32) ≤ nI c := fun q => by have := (nI_leq (a := 400) (by omega) (by omega)).mp q; omega
def kwG (kt : Nat → Int64) (v : Int64) : Nat → Nat → Int32
  | 0, _ => 258
  | r + 1, j => if kt j = v then 300 + nI j else kwG kt v r (j + 1)
theorem kwL_G {kt : Nat → Int64} {x : XS} (h : KeyT kt x) (v : Int64) : ∀ r j, r + j ≤ 27 → kwL x v r j = kwG kt v r j
  | 0, _, _ => rfl
  | r + 1, j, hr => by rw [kwL, kwG, h j (by omega), kwL_G h v r (j + 1) (by omega)]
theorem letB_r {b : Int32} (h : letB b = true) : b ≠ 32 ∧ b ≠ 10 := by
  constructor <;> (rintro rfl; revert h; decide)
theorem digB_r {b : Int32} (h : digB b = true) : b ≠ 32 ∧ b ≠ 10 ∧ letB b = false := by
  unfold digB at h
  refine ⟨by rintro rfl; revert h; decide, by rintro rfl; revert h; decide, ?_⟩
  split at h
  · cases h
  · split at h
    · cases h
    · rename_i h1 h2
      unfold letB
      rw [if_pos]
      rw [Int32.lt_iff_toInt_lt] at h2 ⊢
      have e1 : (57 : Int32).toInt = 57 := by decide
      have e2 : (97 : Int32).toInt = 97 := by decide
      omega
def pkW (w : List Int32) : Int64 := w.foldl packF 0
def nmW (w : List Int32) : Int64 := w.foldl nmF 0
theorem sub_p (p k : Nat) : nI (p + k) - nI p = nI k := by rw [show nI (p + k) = nI k + nI p by rw [nI_addN, Nat.add_comm], Int32.add_sub_cancel]
theorem sc_word {kt : Nat → Int64} {b : Int32} {w s : List Int32} {l : List (Int32 × Int64)} {k : Int32} (hb : letB b = true) (hw : ∀ c ∈ w, Alv c = true) (hl : w.length < 10) (hk : kwG kt (pkW (b :: w)) 27 0 = k) (k0 : k ≠ 260) (k1 : k ≠ 261) (hs : Alv (s.headD (-1)) = false) (h : ScanTo kt s l) : ScanTo kt ((b :: w) ++ s) ((k, pkW (b :: w)) :: l) := by
  refine sc_tok (letB_r hb).1 (letB_r hb).2 k0 k1 ?_ h
  intro x p c hT hK h5 h4 hc h6
  have hN := word_l hs (b :: w) x p ((b :: w) ++ s).length hT h5 rfl (fun v hv => by
    rcases List.mem_cons.mp hv with rfl | hv
    · show (letB v || digB v) = true; rw [hb]; rfl
    · exact hw v hv)
  rw [h6] at hN
  refine ⟨_, ?_, hN⟩
  have hT' : TL x p (b :: (w ++ s)) := hT
  unfold tokU
  dsimp only
  rw [h5, TL.at1 hT', h4, if_neg (TL.ge hT'), if_neg (c400 hc), if_pos hb]
  unfold wordU
  rw [TL.left hT h5]
  dsimp only
  rw [hN.2.1, h5, sub_p, hN.2.2.2, if_pos (show nI (b :: w).length ≤ 10 from (nI_leq (b := 10) (by rw [List.length_cons]; omega) (by omega)).mpr (by rw [List.length_cons]; omega)), kwL_G (x := wordL ((b :: w) ++ s).length x) (fun j hj => (hN.2.2.1 4 j (by omega)).trans (hK j hj)) _ 27 0 (by omega)]
  exact congrArg (·, _) hk
theorem sc_numb {kt : Nat → Int64} {b : Int32} {w s : List Int32} {l : List (Int32 × Int64)} (hb : digB b = true) (hw : ∀ c ∈ w, digB c = true) (hl : w.length < 6) (hs : digB (s.headD (-1)) = false) (h : ScanTo kt s l) : ScanTo kt ((b :: w) ++ s) ((259, nmW (b :: w)) :: l) := by
  refine sc_tok (digB_r hb).1 (digB_r hb).2.1 (by decide) (by decide) ?_ h
  intro x p c hT hK h5 h4 hc h6
  have hN := num_l hs (b :: w) x p ((b :: w) ++ s).length hT h5 rfl (fun v hv => by
    rcases List.mem_cons.mp hv with rfl | hv
    · exact hb
    · exact hw v hv)
  rw [h6] at hN
  refine ⟨_, ?_, hN⟩
  have hT' : TL x p (b :: (w ++ s)) := hT
  unfold tokU
  dsimp only
  rw [h5, TL.at1 hT', h4, if_neg (TL.ge hT'), if_neg (c400 hc), if_neg (show ¬ letB b = true by rw [(digB_r hb).2.2]; exact Bool.false_ne_true), if_pos hb]
  unfold numU
  rw [TL.left hT h5]
  dsimp only
  rw [hN.2.1, h5, sub_p, if_pos (show nI (b :: w).length ≤ 6 from (nI_leq (b := 6) (by rw [List.length_cons]; omega) (by omega)).mpr (by rw [List.length_cons]; omega))]
theorem sym_tok {x : XS} {p c : Nat} {b : Int32} {s : List Int32} (hb : Alv b = false) (hT : TL x p (b :: s)) (h5 : x.1 3 5 = nI p) (h4 : x.1 3 4 = nI c) (hc : c < 400) : tokU x = symU x b := by
  have hA : (letB b || digB b) = false := hb
  rw [Bool.or_eq_false_iff] at hA
  unfold tokU
  dsimp only
  rw [h5, TL.at1 hT, h4, if_neg (TL.ge hT), if_neg (c400 hc), if_neg (show ¬ letB b = true by rw [hA.1]; exact Bool.false_ne_true), if_neg (show ¬ digB b = true by rw [hA.2]; exact Bool.false_ne_true)]
theorem sc_sym {kt : Nat → Int64} {b : Int32} {s : List Int32} {l : List (Int32 × Int64)} (h1 : b ≠ 32) (h2 : b ≠ 10) (k0 : b ≠ 260) (k1 : b ≠ 261) (hb : Alv b = false) (hy : symO b = 270) (h : ScanTo kt s l) : ScanTo kt (b :: s) ((b, 0) :: l) := by
  refine sc_tok (w := [b]) h1 h2 k0 k1 ?_ h
  intro x p c hT hK h5 h4 hc h6
  refine ⟨setI x 3 5 (nI (p + 1)), ?_, ?_⟩
  · rw [sym_tok hb hT h5 h4 hc]
    unfold symU
    dsimp only
    rw [if_pos hy, h5, inc_p]
  · have := NX.mv (y := x) (q := p + 1)
    rw [h6] at this
    exact this
/-- less or greater, alone -/
theorem sc_cmp {kt : Nat → Int64} {b : Int32} {s : List Int32} {l : List (Int32 × Int64)} (hb : b = 60 ∨ b = 62) (hs : s.headD (-1) ≠ 61) (h : ScanTo kt s l) : ScanTo kt (b :: s) ((b, 0) :: l) := by
  have hy : symO b = 229 := by rcases hb with rfl | rfl <;> decide
  have hA : Alv b = false := by rcases hb with rfl | rfl <;> decide
  refine sc_tok (w := [b]) (show b ≠ 32 by rcases hb with rfl | rfl <;> decide) (show b ≠ 10 by rcases hb with rfl | rfl <;> decide) (by rcases hb with rfl | rfl <;> decide) (by rcases hb with rfl | rfl <;> decide) ?_ h
  intro x p c hT hK h5 h4 hc h6
  have hm := NX.mv (y := x) (q := p + 1)
  refine ⟨setI x 3 5 (nI (p + 1)), ?_, ?_⟩
  · have hT' : TL x p (b :: s) := hT
    rw [sym_tok hA hT h5 h4 hc]
    unfold symU
    dsimp only
    rw [hy, if_neg (by decide), if_pos rfl, h5, inc_p, hm.2.1, TL.at (hT'.tail.nx hm), if_neg hs]
  · rw [h6] at hm
    exact hm
/-- less or equal -/
theorem sc_leq {kt : Nat → Int64} {s : List Int32} {l : List (Int32 × Int64)} (h : ScanTo kt s l) : ScanTo kt (60 :: 61 :: s) ((256, 0) :: l) := by
  refine sc_tok (w := [60, 61]) (show (60 : Int32) ≠ 32 by decide) (show (60 : Int32) ≠ 10 by decide) (by decide) (by decide) ?_ h
  intro x p c hT hK h5 h4 hc h6
  have hT' : TL x p (60 :: (61 :: s)) := hT
  have hm := NX.mv (y := x) (q := p + 1)
  have hm2 := NX.mv (y := setI x 3 5 (nI (p + 1))) (q := p + 2)
  refine ⟨setI (setI x 3 5 (nI (p + 1))) 3 5 (nI (p + 2)), ?_, ?_⟩
  · rw [sym_tok (by decide) hT h5 h4 hc]
    unfold symU
    dsimp only
    rw [show symO 60 = 229 by decide, if_neg (by decide), if_pos rfl, h5, inc_p, hm.2.1, TL.at1 (hT'.tail.nx hm), if_pos rfl, if_pos rfl, inc_p]
  · have := hm.trans hm2
    rw [show (setI x 3 5 (nI (p + 1))).2 3 6 = x.2 3 6 from rfl, h6] at this
    exact this
/-! The words of the language -/
def kwB : List (List Int32) := [[102, 97, 109, 105, 108, 121], [112, 114, 111, 109, 105, 115, 101], [105, 102], [116, 104, 101, 110], [112, 97, 99, 116], [101, 105, 116, 104, 101, 114], [111, 114], [102, 101, 117, 100], [119, 105, 116, 104], [111, 97, 116, 104], [114, 105, 100, 101, 115], [115, 116, 97, 121, 115], [98, 114, 101, 97, 107], [114, 101, 110, 101, 119], [119, 104, 101, 110], [100, 97, 121], [115, 116, 97, 110, 100, 105, 110, 103], [112, 97, 114, 116, 115], [112, 101, 97, 99, 101, 115], [112, 111, 115, 115, 105, 98, 108, 101], [115, 116, 97, 110, 100, 115], [102, 111, 108, 108, 111, 119, 115], [102, 114, 111, 109], [110, 111, 116], [97, 110, 100], [109, 105, 110], [109, 97, 120]]
def kwT (j : Nat) : Int64 := pkW (kwB.getD j [])
theorem kw_ok : ∀ j, j < 27 → letB ((kwB.getD j []).headD 0) = true ∧ (∀ c ∈ (kwB.getD j []).tail, Alv c = true) ∧ (kwB.getD j []).tail.length < 10 ∧ (kwB.getD j []).headD 0 :: (kwB.getD j []).tail = kwB.getD j [] ∧ kwG kwT (kwT j) 27 0 = 300 + nI j ∧ 300 + nI j ≠ 260 ∧ 300 + nI j ≠ 261 := by decide +kernel
theorem sc_kw {s : List Int32} {l : List (Int32 × Int64)} {j : Nat} (hj : j < 27) (hs : Alv (s.headD (-1)) = false) (h : ScanTo kwT s l) : ScanTo kwT (kwB.getD j [] ++ s) ((300 + nI j, kwT j) :: l) := by
  obtain ⟨a, b, c, d, e, f, g⟩ := kw_ok j hj
  have := sc_word (kt := kwT) (s := s) (l := l) a b c (k := 300 + nI j) (by rw [d]; exact e) f g hs h
  rw [d] at this; exact this
def nmFa (f : Nat) : Int64 := pkW (102 :: numB f)
def nmSt (k : Nat) : Int64 := pkW (115 :: numB k)
theorem nf_ok : ∀ f, f < 10 → (∀ c ∈ numB f, Alv c = true) ∧ (numB f).length < 10 ∧ kwG kwT (nmFa f) 27 0 = 258 := by decide +kernel
theorem ns_ok : ∀ f, f < 20 → (∀ c ∈ numB f, Alv c = true) ∧ (numB f).length < 10 ∧ kwG kwT (nmSt f) 27 0 = 258 := by decide +kernel
theorem sc_fam {s : List Int32} {l : List (Int32 × Int64)} {f : Nat} (hf : f < 10) (hs : Alv (s.headD (-1)) = false) (h : ScanTo kwT s l) : ScanTo kwT (102 :: (numB f ++ s)) ((258, nmFa f) :: l) := by
  obtain ⟨a, b, c⟩ := nf_ok f hf
  exact sc_word (b := 102) (by decide) a b c (by decide) (by decide) hs h
theorem sc_stm {s : List Int32} {l : List (Int32 × Int64)} {f : Nat} (hf : f < 20) (hs : Alv (s.headD (-1)) = false) (h : ScanTo kwT s l) : ScanTo kwT (115 :: (numB f ++ s)) ((258, nmSt f) :: l) := by
  obtain ⟨a, b, c⟩ := ns_ok f hf
  exact sc_word (b := 115) (by decide) a b c (by decide) (by decide) hs h
theorem nn_ok : ∀ n, n < 100 → digB ((numB n).headD 0) = true ∧ (∀ c ∈ (numB n).tail, digB c = true) ∧ (numB n).tail.length < 6 ∧ (numB n).headD 0 :: (numB n).tail = numB n ∧ nmW (numB n) = Int64.ofNat n ∧ (Int64.ofNat n).toInt32 = nI n := by decide +kernel
theorem sc_n {s : List Int32} {l : List (Int32 × Int64)} {n : Nat} (hn : n < 100) (hs : digB (s.headD (-1)) = false) (h : ScanTo kwT s l) : ScanTo kwT (numB n ++ s) ((259, Int64.ofNat n) :: l) := by
  obtain ⟨a, b, c, d, e, -⟩ := nn_ok n hn
  have := sc_numb (kt := kwT) (s := s) (l := l) a b c hs h
  rw [d, e] at this; exact this
theorem nmFa_inj : ∀ i, i < 10 → ∀ j, j < 10 → nmFa i = nmFa j → i = j := by decide +kernel
theorem nmSt_inj : ∀ i, i < 20 → ∀ j, j < 20 → nmSt i = nmSt j → i = j := by decide +kernel
