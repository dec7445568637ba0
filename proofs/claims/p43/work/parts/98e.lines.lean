/-! The lines -/
def DrB (b : Bok) (s m c : Nat) (x : XS) : Prop := x.1 1 1 = 0 ∧ (∀ k, k < s → x.1 9 k = nI (bk b k) ∧ x.1 10 k = nI (b1 b k) ∧ x.1 11 k = nI (b2 b k) ∧ x.1 12 k = nI (bl b k) ∧ x.1 13 k = nI (br b k)) ∧ x.1 8 7 = nI m ∧
  ∀ j, j < m → x.1 14 j = b2i (decide (bo b j 0 = 2)) ∧ x.1 15 j = nI (bo b j 1) ∧ ∃ st, x.1 16 j = nI st ∧ x.1 17 j = nI (st + (cdT b j).length) ∧ st + (cdT b j).length ≤ c ∧ CdA x st (cdT b j)
theorem DrB.ad {b : Bok} {s m c : Nat} {x y : XS} {l : List Cod} (h : DrB b s m c x) (g : Ad x y c l) : DrB b s m (c + l.length) y := by
  obtain ⟨a1, a2, a3, a4⟩ := h
  obtain ⟨g1, g2, g3, g4⟩ := g
  have e : ∀ q k, 9 ≤ q ∧ q ≤ 17 → y.1 q k = x.1 q k := fun q k u => g1 q k (by omega) (by omega) (by omega)
  refine ⟨(g1 1 1 (by omega) (by omega) (by omega)).trans a1, fun k hk => ?_, (g1 8 7 (by omega) (by omega) (by omega)).trans a3, fun j hj => ?_⟩
  · rw [e 9 k (by omega), e 10 k (by omega), e 11 k (by omega), e 12 k (by omega), e 13 k (by omega)]; exact a2 k hk
  · rw [e 14 j (by omega), e 15 j (by omega), e 16 j (by omega), e 17 j (by omega)]
    obtain ⟨b1, b2, st, b3, b4, b5, b6⟩ := a4 j hj
    exact ⟨b1, b2, st, b3, b4, by omega, b6.of (fun q k u v w => g3 q k u v (by omega))⟩
theorem DrB.ad0 {b : Bok} {s m c : Nat} {x y : XS} (h : DrB b s m c x) (g : Ad x y c []) : DrB b s m c y := h.ad g
theorem DrB.mono {b : Bok} {s m c : Nat} {x y : XS} (h : DrB b s m c x) (g : ∀ q k, q ≠ 34 → ¬ (q = 8 ∧ k < 7) → y.1 q k = x.1 q k) : DrB b s m c y := by
  obtain ⟨a1, a2, a3, a4⟩ := h
  refine ⟨(g 1 1 (by omega) (by omega)).trans a1, fun k hk => ?_, (g 8 7 (by omega) (by omega)).trans a3, fun j hj => ?_⟩
  · rw [g 9 k (by omega) (by omega), g 10 k (by omega) (by omega), g 11 k (by omega) (by omega), g 12 k (by omega) (by omega), g 13 k (by omega) (by omega)]; exact a2 k hk
  · rw [g 14 j (by omega) (by omega), g 15 j (by omega) (by omega), g 16 j (by omega) (by omega), g 17 j (by omega) (by omega)]
    obtain ⟨b1, b2, st, b3, b4, b5, b6⟩ := a4 j hj
    exact ⟨b1, b2, st, b3, b4, b5, b6.of (fun q k u v w => g q k (by omega) (by omega))⟩
/-- where the reading of a book's lines stands -/
def Dr (b : Bok) (x : XS) (ts : List Tok) (f s m c : Nat) : Prop := Rk f s x ts c ∧ DrB b s m c x
theorem line_k {F S c : Nat} {x : XS} {ts : List Tok} {k : Int32} (h : Rk F S x ts c) (e : hk ts = k) : curK x = k := h.1.cur.trans e
theorem fam_line {b : Bok} {F S m c : Nat} {x : XS} {ts : List Tok} (h : Dr b x (famL F ++ ts) F S m c) (hF : F < 10) : ∃ y, lineU x = (true, y) ∧ Dr b y (syX 59 :: ts) (F + 1) S m c := by
  obtain ⟨hR, hD⟩ := h
  have hR' : Rk F S x (kwX 0 :: (fmX F :: (syX 59 :: ts))) c := hR
  obtain ⟨a1, a2⟩ := rk_adv hR'
  have hN := a1.2.2.2
  have d1 := hD.ad0 a2
  have e : lineU x = (true, adv (setI (setL (adv x) 35 F (nmFa F)) 8 0 (nI (F + 1)))) := by
    unfold lineU
    dsimp only
    rw [line_k hR' (show (300 : Int32) + nI 0 = 300 by decide), if_pos rfl]
    unfold famU
    dsimp only
    rw [a1.1.next, if_pos (decide_eq_true (show hk (fmX F :: syX 59 :: ts) = 258 from rfl)), a1.1.val, hN.1, show findF (adv x) 35 10 (nI F) (fmX F).2 = -1 from miss_fam hN hF, if_pos (by decide), if_neg (nI_pos (by omega)), if_neg (fun q => by have := (nI_leq (by omega) (by omega)).mp q; omega), nI_clamp (by omega)]
    rw [show (setL (adv x) 35 F (fmX F).2).1 8 0 = nI F from hN.1, inc_p]; rfl
  refine ⟨_, e, ?_⟩
  have r : Rk (F + 1) S (setI (setL (adv x) 35 F (nmFa F)) 8 0 (nI (F + 1))) (fmX F :: (syX 59 :: ts)) c := by
    obtain ⟨b1, b2, b3, b4, b5, b6, b7, b8, b9⟩ := a1
    have g2 : ∀ q k, q ≠ 35 → (setI (setL (adv x) 35 F (nmFa F)) 8 0 (nI (F + 1))).2 q k = (adv x).2 q k := fun q k h => if_neg (fun z => h z.1)
    refine ⟨b1.of (rdI_ne (by decide)) (rdI_ne (by decide)) (fun k => rdI_ne (by decide)) (fun k => g2 _ _ (by decide)), (rdI_ne (by decide)).trans b2, (rdI_nk (by decide)).trans b3, rdI_eq, by omega, fun i hi => ?_, (rdI_nk (by decide)).trans b7, b8, fun i hi => (g2 _ _ (by decide)).trans (b9 i hi)⟩
    by_cases q : i = F
    · subst q; exact rdL_eq
    · exact (rdL_nk q).trans (b6 i (by omega))
  obtain ⟨r1, r2⟩ := rk_adv r
  refine ⟨r1, DrB.ad0 ?_ r2⟩
  exact d1.mono (fun q k u v => by
    rw [rdI, if_neg (by omega)]; rfl)
theorem addSt_eq {x : XS} {S : Nat} (h : x.1 8 1 = nI S) (hS : S < 20) (kd f s : Int32) : addStF x kd f s = setI (setI (setI (setI (setI (setI x 9 S kd) 10 S f) 11 S s) 12 S (lefI kd f)) 13 S (rigI kd s)) 8 1 (nI (S + 1)) := by
  unfold addStF
  rw [h, if_neg (nI_pos (by omega)), if_neg (fun (q : (20 : Int32) ≤ nI S) => by have := (nI_leq (a := 20) (by omega) (by omega)).mp q; omega), nI_clamp (by omega), inc_p]
theorem xorI1 : ∀ a, a < 20 → nI a ^^^ 1 = nI (a ^^^ 1) := by decide +kernel
theorem lefI_bl {b : Bok} {k : Nat} (h : bk b k < 4) (h1 : b1 b k < 20) : lefI (nI (bk b k)) (nI (b1 b k)) = nI (bl b k) := by
  unfold lefI bl
  generalize bk b k = n at *
  have hn : n = 0 ∨ n = 1 ∨ n = 2 ∨ n = 3 := by omega
  rcases hn with rfl | rfl | rfl | rfl
  · rw [if_pos (by decide), if_pos (by decide)]; exact xorI1 _ h1
  · rw [if_neg (by decide), if_neg (by decide), if_neg (by decide)]
  · rw [if_neg (by decide), if_pos (by decide), if_pos (by decide)]; exact xorI1 _ h1
  · rw [if_neg (by decide), if_neg (by decide), if_neg (by decide)]
theorem rigI_br {b : Bok} {k : Nat} (h : bk b k < 4) (h1 : b2 b k < 20) : rigI (nI (bk b k)) (nI (b2 b k)) = nI (br b k) := by
  unfold rigI br
  generalize bk b k = n at *
  have hn : n = 0 ∨ n = 1 ∨ n = 2 ∨ n = 3 := by omega
  rcases hn with rfl | rfl | rfl | rfl
  · rw [if_neg (by decide), if_neg (by decide)]
  · rw [if_neg (by decide), if_neg (by decide)]
  · rw [if_pos (by decide), if_pos (by decide)]; exact xorI1 _ h1
  · rw [if_neg (by decide), if_neg (by decide)]
/-- a statement is put behind the others -/
theorem put_st {b : Bok} (hW : BW b) {F S m c : Nat} {x : XS} {ts : List Tok} (h : Dr b x ts F S m c) (hS : S < bS b) (hn : x.2 36 S = nmSt S) : Dr b (addStF x (nI (bk b S)) (nI (b1 b S)) (nI (b2 b S))) ts F (S + 1) m c := by
  obtain ⟨⟨r1, r2, r3, r4, r5, r6, r7, r8, r9⟩, d1, d2, d3, d4⟩ := h
  have hb := hW.2.2.1 S hS
  have hF := hW.1.2
  have hS2 := hW.2.1
  rw [addSt_eq r7 (by omega), lefI_bl hb.1 (by omega), rigI_br hb.1 (by omega)]
  have g : ∀ q k, ¬ (9 ≤ q ∧ q ≤ 13 ∧ k = S) → ¬ (q = 8 ∧ k = 1) → (setI (setI (setI (setI (setI (setI x 9 S (nI (bk b S))) 10 S (nI (b1 b S))) 11 S (nI (b2 b S))) 12 S (nI (bl b S))) 13 S (nI (br b S))) 8 1 (nI (S + 1))).1 q k = x.1 q k := fun q k u v => by
    rw [rdI, if_neg v, rdI, if_neg (by omega), rdI, if_neg (by omega), rdI, if_neg (by omega), rdI, if_neg (by omega), rdI, if_neg (by omega)]
  refine ⟨⟨r1.of (g _ _ (by omega) (by omega)) (g _ _ (by omega) (by omega)) (fun k => g _ _ (by omega) (by omega)) (fun _ => rfl), (g _ _ (by omega) (by omega)).trans r2, (g _ _ (by omega) (by omega)).trans r3, (g _ _ (by omega) (by omega)).trans r4, r5, r6, rdI_eq, by omega, fun i hi => ?_⟩, (g _ _ (by omega) (by omega)).trans d1, fun k hk => ?_, (g _ _ (by omega) (by omega)).trans d3, fun j hj => ?_⟩
  · by_cases q : i = S
    · subst q; exact hn
    · exact r9 i (by omega)
  · by_cases q : k = S
    · subst q
      refine ⟨?_, ?_, ?_, ?_, ?_⟩
      · rw [rdI_ne (by decide), rdI_ne (by decide), rdI_ne (by decide), rdI_ne (by decide), rdI_ne (by decide)]; exact rdI_eq
      · rw [rdI_ne (by decide), rdI_ne (by decide), rdI_ne (by decide), rdI_ne (by decide)]; exact rdI_eq
      · rw [rdI_ne (by decide), rdI_ne (by decide), rdI_ne (by decide)]; exact rdI_eq
      · rw [rdI_ne (by decide), rdI_ne (by decide)]; exact rdI_eq
      · rw [rdI_ne (by decide)]; exact rdI_eq
    · rw [g 9 k (by omega) (by omega), g 10 k (by omega) (by omega), g 11 k (by omega) (by omega), g 12 k (by omega) (by omega), g 13 k (by omega) (by omega)]
      exact d2 k (by omega)
  · rw [g 14 j (by omega) (by omega), g 15 j (by omega) (by omega), g 16 j (by omega) (by omega), g 17 j (by omega) (by omega)]
    obtain ⟨b1, b2, st, b3, b4, b5, b6⟩ := d4 j hj
    exact ⟨b1, b2, st, b3, b4, b5, b6.of (fun q k u v w => g q k (by omega) (by omega))⟩
theorem stn_ok {b : Bok} {F S m c : Nat} {x : XS} {ts : List Tok} (h : Dr b x (stX S :: ts) F S m c) (hS : S < 20) : ∃ y, stnU x = (true, y) ∧ Dr b y ts F S m c ∧ y.2 36 S = nmSt S := by
  obtain ⟨hR, hD⟩ := h
  have hN := hR.2.2.2
  have e : stnU x = (true, adv (setL x 36 S (nmSt S))) := by
    unfold stnU
    dsimp only
    rw [hR.1.next, if_pos (decide_eq_true (show hk (stX S :: ts) = 258 from rfl)), hR.1.val, hN.2.2.2.1, show findF x 36 20 (nI S) (stX S).2 = -1 from miss_stm hN hS, if_pos (by decide), if_neg (nI_pos (by omega)), if_neg (fun q => by have := (nI_leq (by omega) (by omega)).mp q; omega), nI_clamp (by omega)]
    rfl
  have r : Rk F S (setL x 36 S (nmSt S)) (stX S :: ts) c := by
    obtain ⟨b1, b2, b3, b4, b5, b6, b7, b8, b9⟩ := hR
    exact ⟨b1.of rfl rfl (fun k => rfl) (fun k => rdL_ne (by decide)), b2, b3, b4, b5, fun i hi => (rdL_ne (by decide)).trans (b6 i hi), b7, b8, fun i hi => (rdL_nk (by omega)).trans (b9 i hi)⟩
  obtain ⟨r1, r2⟩ := rk_adv r
  have hD' : DrB b S m c (setL x 36 S (nmSt S)) := hD
  exact ⟨_, e, ⟨r1, hD'.ad0 r2⟩, by rw [r2.2.1]; exact rdL_eq⟩
theorem Dr.mv {b : Bok} {F S m c : Nat} {x y : XS} {ts us : List Tok} (h : Dr b x ts F S m c) (r : Rk F S y us c) (a : Ad x y c []) : Dr b y us F S m c := ⟨r, h.2.ad0 a⟩
/-- the claims of a statement -/
theorem stmB2 {b : Bok} (hW : BW b) {F S m c : Nat} {x : XS} {t : Tok} {ts : List Tok} {bt : Int32} (hF : F = bF b) (h : Dr b x (clX (b1 b S) ++ t :: (clX (b2 b S) ++ ts)) F S m c) (hS : S < bS b) (hn : x.2 36 S = nmSt S) (hb : bt ≠ 263) (ht : t.1 = bt) : ∃ y, stmB (nI (bk b S)) bt x = (true, y) ∧ Dr b y ts F (S + 1) m c := by
  obtain ⟨k1, k2, k3, k4⟩ := hW.2.2.1 S hS
  obtain ⟨y, e1, a1, a2⟩ := cl_ok h.1 (show b1 b S < 2 * F by omega)
  obtain ⟨c1, c2⟩ := rk_adv a1
  obtain ⟨z, e2, d1, d2⟩ := cl_ok c1 (show b2 b S < 2 * F by omega)
  refine ⟨_, ?_, put_st hW (((h.mv a1 a2).mv c1 c2).mv d1 d2) hS (by rw [d2.2.1, c2.2.1, a2.2.1]; exact hn)⟩
  have hF5 := hW.1.2
  unfold stmB
  rw [e1]
  dsimp only
  rw [if_neg (nI_pos (by omega)), if_neg hb, take_y a1 ht]
  dsimp only
  rw [if_pos rfl, e2]
  dsimp only
  rw [if_neg (nI_pos (by omega))]
theorem stmB1 {b : Bok} (hW : BW b) {F S m c : Nat} {x : XS} {ts : List Tok} (hF : F = bF b) (h : Dr b x (clX (b1 b S) ++ ts) F S m c) (hS : S < bS b) (hn : x.2 36 S = nmSt S) (h3 : bk b S = 3) : ∃ y, stmB (nI (bk b S)) 263 x = (true, y) ∧ Dr b y ts F (S + 1) m c := by
  obtain ⟨k1, k2, k3, k4⟩ := hW.2.2.1 S hS
  obtain ⟨y, e1, a1, a2⟩ := cl_ok h.1 (show b1 b S < 2 * F by omega)
  have hp := put_st hW (h.mv a1 a2) hS (by rw [a2.2.1]; exact hn)
  rw [k4 h3] at hp
  refine ⟨_, ?_, hp⟩
  have hF5 := hW.1.2
  unfold stmB
  rw [e1]
  dsimp only
  rw [if_neg (nI_pos (by omega)), if_pos rfl]
theorem stm_line {b : Bok} (hW : BW b) {S m c : Nat} {x : XS} {ts : List Tok} (h : Dr b x (stmL b S ++ ts) (bF b) S m c) (hS : S < bS b) : ∃ y, lineU x = (true, y) ∧ Dr b y (syX 59 :: ts) (bF b) (S + 1) m c := by
  obtain ⟨k1, k2, k3, k4⟩ := hW.2.2.1 S hS
  have hS2 := hW.2.1
  unfold stmL tolL at h
  have key : ∀ (k0 : Nat) (K ah bt : Int32) (us : List Tok), Dr b x (kwX k0 :: stX S :: us) (bF b) S m c → (300 : Int32) + nI k0 = K → (∀ z, lineU z = if curK z = K then stmU z (nI (bk b S)) ah bt else lineU z) → (∀ z, Dr b z us (bF b) S m c → z.2 36 S = nmSt S → ∃ y, (if ah = 263 then stmB (nI (bk b S)) bt z else let t := takeU z ah; if t.1 then stmB (nI (bk b S)) bt t.2 else (false, t.2)) = (true, y) ∧ Dr b y (syX 59 :: ts) (bF b) (S + 1) m c) → ∃ y, lineU x = (true, y) ∧ Dr b y (syX 59 :: ts) (bF b) (S + 1) m c := by
    intro k0 K ah bt us hx hK hl hz
    obtain ⟨a1, a2⟩ := rk_adv hx.1
    obtain ⟨y, e1, d1, d2⟩ := stn_ok (hx.mv a1 a2) (by omega)
    obtain ⟨z, e2, d3⟩ := hz y d1 d2
    refine ⟨z, ?_, d3⟩
    rw [hl, line_k hx.1 hK, if_pos rfl]
    unfold stmU
    dsimp only
    rw [e1]
    dsimp only
    rw [if_pos rfl]; exact e2
  by_cases h0 : bk b S = 0
  · rw [if_pos h0] at h
    simp only [List.append_assoc, List.cons_append, List.nil_append] at h
    refine key 1 301 302 303 _ h (by decide) (fun z => ?_) (fun z hz hn => ?_)
    · rw [h0]
      by_cases e : curK z = 301
      · rw [if_pos e]; unfold lineU; dsimp only; rw [e, if_neg (by decide), if_pos rfl]; rfl
      · rw [if_neg e]
    · rw [if_neg (by decide)]
      dsimp only
      obtain ⟨a1, a2⟩ := rk_adv hz.1
      rw [take_y hz.1 (by decide)]
      dsimp only
      rw [if_pos rfl]
      exact stmB2 hW rfl (hz.mv a1 a2) hS (by rw [a2.2.1]; exact hn) (by decide) (by decide)
  · rw [if_neg h0] at h
    by_cases h1 : bk b S = 1
    · rw [if_pos h1] at h
      simp only [List.append_assoc, List.cons_append, List.nil_append] at h
      refine key 4 304 305 306 _ h (by decide) (fun z => ?_) (fun z hz hn => ?_)
      · rw [h1]
        by_cases e : curK z = 304
        · rw [if_pos e]; unfold lineU; dsimp only; rw [e, if_neg (by decide), if_neg (by decide), if_pos rfl]; rfl
        · rw [if_neg e]
      · rw [if_neg (by decide)]
        dsimp only
        obtain ⟨a1, a2⟩ := rk_adv hz.1
        rw [take_y hz.1 (by decide)]
        dsimp only
        rw [if_pos rfl]
        exact stmB2 hW rfl (hz.mv a1 a2) hS (by rw [a2.2.1]; exact hn) (by decide) (by decide)
    · rw [if_neg h1] at h
      by_cases h2 : bk b S = 2
      · rw [if_pos h2] at h
        simp only [List.append_assoc, List.cons_append, List.nil_append] at h
        refine key 7 307 263 308 _ h (by decide) (fun z => ?_) (fun z hz hn => ?_)
        · rw [h2]
          by_cases e : curK z = 307
          · rw [if_pos e]; unfold lineU; dsimp only; rw [e, if_neg (by decide), if_neg (by decide), if_neg (by decide), if_pos rfl]; rfl
          · rw [if_neg e]
        · rw [if_pos rfl]
          exact stmB2 hW rfl hz hS hn (by decide) (by decide)
      · rw [if_neg h2] at h
        have h3 : bk b S = 3 := by omega
        simp only [List.append_assoc, List.cons_append, List.nil_append] at h
        refine key 9 309 263 263 _ h (by decide) (fun z => ?_) (fun z hz hn => ?_)
        · rw [h3]
          by_cases e : curK z = 309
          · rw [if_pos e]; unfold lineU; dsimp only; rw [e, if_neg (by decide), if_neg (by decide), if_neg (by decide), if_neg (by decide), if_pos rfl]; rfl
          · rw [if_neg e]
        · rw [if_pos rfl]
          exact stmB1 hW rfl hz hS hn h3
theorem addOr_eq {x : XS} {m c : Nat} (h : x.1 8 7 = nI m) (hm : m < 16) (hc : x.1 8 12 = nI c) (rn st cs : Int32) : addOrF x rn st cs = setI (setI (setI (setI (setI x 14 m (if rn = 0 then 0 else 1)) 15 m st) 16 m cs) 17 m (nI c)) 8 7 (nI (m + 1)) := by
  unfold addOrF
  rw [h, hc, if_neg (nI_pos (by omega)), if_neg (fun (q : (16 : Int32) ≤ nI m) => by have := (nI_leq (a := 16) (by omega) (by omega)).mp q; omega), nI_clamp (by omega), inc_p]
theorem put_or {b : Bok} {F S m c st : Nat} {x : XS} {ts : List Tok} (h : Dr b x ts F S m c) (hm : m < 16) (he : c = st + (cdT b m).length) (hcd : CdA x st (cdT b m)) (rn : Bool) (hr : rn = decide (bo b m 0 = 2)) : Dr b (addOrF x (b2i rn) (nI (bo b m 1)) (nI st)) ts F S (m + 1) c := by
  obtain ⟨⟨r1, r2, r3, r4, r5, r6, r7, r8, r9⟩, d1, d2, d3, d4⟩ := h
  rw [addOr_eq d3 hm r3, show (if b2i rn = 0 then (0 : Int32) else 1) = b2i (decide (bo b m 0 = 2)) by rw [hr]; cases decide (bo b m 0 = 2) <;> rfl]
  generalize hv : b2i (decide (bo b m 0 = 2)) = v
  have g : ∀ q k, ¬ (14 ≤ q ∧ q ≤ 17 ∧ k = m) → ¬ (q = 8 ∧ k = 7) → (setI (setI (setI (setI (setI x 14 m v) 15 m (nI (bo b m 1))) 16 m (nI st)) 17 m (nI c)) 8 7 (nI (m + 1))).1 q k = x.1 q k := fun q k u v => by
    rw [rdI, if_neg v, rdI, if_neg (by omega), rdI, if_neg (by omega), rdI, if_neg (by omega), rdI, if_neg (by omega)]
  have gc : ∀ st' l, CdA x st' l → CdA (setI (setI (setI (setI (setI x 14 m v) 15 m (nI (bo b m 1))) 16 m (nI st)) 17 m (nI c)) 8 7 (nI (m + 1))) st' l := fun st' l z => z.of (fun q k u v w => g q k (by omega) (by omega))
  refine ⟨⟨r1.of (g _ _ (by omega) (by omega)) (g _ _ (by omega) (by omega)) (fun k => g _ _ (by omega) (by omega)) (fun _ => rfl), (g _ _ (by omega) (by omega)).trans r2, (g _ _ (by omega) (by omega)).trans r3, (g _ _ (by omega) (by omega)).trans r4, r5, r6, (g _ _ (by omega) (by omega)).trans r7, r8, r9⟩, (g _ _ (by omega) (by omega)).trans d1, fun k hk => ?_, rdI_eq, fun j hj => ?_⟩
  · rw [g 9 k (by omega) (by omega), g 10 k (by omega) (by omega), g 11 k (by omega) (by omega), g 12 k (by omega) (by omega), g 13 k (by omega) (by omega)]
    exact d2 k hk
  · by_cases q : j = m
    · subst q
      refine ⟨?_, ?_, st, ?_, ?_, by omega, gc _ _ hcd⟩
      · rw [rdI_ne (by decide), rdI_ne (by decide), rdI_ne (by decide), rdI_ne (by decide), rdI_eq]; exact hv.symm
      · rw [rdI_ne (by decide), rdI_ne (by decide), rdI_ne (by decide)]; exact rdI_eq
      · rw [rdI_ne (by decide), rdI_ne (by decide)]; exact rdI_eq
      · rw [rdI_ne (by decide), rdI_eq, he]
    · obtain ⟨b1, b2, st', b3, b4, b5, b6⟩ := d4 j (by omega)
      rw [g 14 j (by omega) (by omega), g 15 j (by omega) (by omega), g 16 j (by omega) (by omega), g 17 j (by omega) (by omega)]
      exact ⟨b1, b2, st', b3, b4, b5, gc _ _ b6⟩
theorem cdT_le (b : Bok) (j : Nat) : (cdT b j).length ≤ 9 := by
  unfold cdT
  dsimp only
  repeat' split
  all_goals (simp only [List.length_cons, List.length_nil]; omega)
theorem ord_line {b : Bok} (hW : BW b) {m c : Nat} {x : XS} {ts : List Tok} (h : Dr b x (ordL b m ++ ts) (bF b) (bS b) m c) (hm : m < bM b) (hc : c ≤ 380) : ∃ y, lineU x = (true, y) ∧ Dr b y (syX 59 :: ts) (bF b) (bS b) (m + 1) (c + (cdT b m).length) := by
  obtain ⟨k0, k1, -, -, -, -⟩ := hW.2.2.2.2 m hm
  have hM := hW.2.2.2.1
  have hl := cdT_le b m
  unfold ordL at h
  simp only [List.append_assoc, List.cons_append, List.nil_append] at h
  generalize hus : tesL (bo b m 2) (bo b m 3) (bo b m 4) (bo b m 5) (bF b) ++ syX 59 :: ts = us at h
  have hkw : hk (kwX (if bo b m 0 = 1 then 12 else 13) :: stX (bo b m 1) :: us) = if bo b m 0 = 1 then 312 else 313 := by
    show (300 : Int32) + nI _ = _
    split <;> decide
  have hrn : nextB x 313 = decide (bo b m 0 = 2) := by
    rw [h.1.1.next, hkw]
    rcases k0 with e | e
    · rw [if_pos e, e]; rfl
    · rw [if_neg (by omega), e]; rfl
  have hln : lineU x = ordrU x := by
    unfold lineU
    dsimp only
    rw [line_k h.1 hkw]
    rcases k0 with e | e
    · rw [if_pos e, if_neg (by decide), if_neg (by decide), if_neg (by decide), if_neg (by decide), if_neg (by decide), if_pos rfl]
    · rw [if_neg (show ¬ bo b m 0 = 1 by omega), if_neg (by decide), if_neg (by decide), if_neg (by decide), if_neg (by decide), if_neg (by decide), if_neg (by decide), if_pos rfl]
  obtain ⟨a1, a2⟩ := rk_adv h.1
  obtain ⟨b1, b2⟩ := rk_adv a1
  have hd := ((h.mv a1 a2).mv b1 b2)
  have h812 : (adv (adv x)).1 8 12 = nI c := b1.2.2.1
  have hbS := hW.2.1
  rw [hln]
  have hlt : x.1 8 7 < 16 := by
    rw [h.2.2.2.1]
    exact (nI_gt (b := 16) (by omega) (by omega)).mpr (by omega)
  unfold ordrU
  dsimp only
  rw [if_pos hlt, kn_stm a1 k1]
  dsimp only
  rw [if_neg (nI_pos (by omega)), hrn, h812]
  by_cases e0 : bo b m 2 = 0
  · have hus' : us = syX 59 :: ts := by rw [← hus, e0]; rfl
    rw [hus'] at hd
    have hcd : cdT b m = [] := by unfold cdT; dsimp only; rw [if_pos e0]
    rw [take_n hd.1 (hk_ne (by decide))]
    dsimp only
    rw [if_neg Bool.false_ne_true, hcd]
    refine ⟨_, rfl, ?_⟩
    exact put_or hd (by omega) (by rw [hcd]; rfl) (by rw [hcd]; exact CdA.nil) _ rfl
  · obtain ⟨vs, v1, v2⟩ := rd_test hW hm (ts := ts) e0
    rw [hus] at v1
    rw [v1] at hd
    obtain ⟨c1, c2⟩ := rk_adv hd.1
    obtain ⟨y, e1, d1, d2⟩ := v2 _ c c1 (by omega)
    rw [take_y hd.1 (by decide)]
    dsimp only
    rw [if_pos rfl, e1]
    dsimp only
    rw [if_pos rfl]
    refine ⟨_, rfl, ?_⟩
    exact put_or ⟨d1, ((hd.mv c1 c2).2.ad d2)⟩ (by omega) rfl d2.2.2.2 _ rfl
/-! All lines -/
theorem pl_step {F S c n F' S' c' : Nat} {x y : XS} {ts us : List Tok} (h : Rk F S x ts c) (hne : hk ts ≠ 260) (e : lineU x = (true, y)) (g : Rk F' S' y (syX 59 :: us) c') : planL (n + 1) x = planL n (adv y) := by
  rw [planL, h.1.next, decide_eq_false hne, if_neg Bool.false_ne_true, e]
  dsimp only
  rw [if_pos rfl, take_y (k := 59) g rfl]
  dsimp only
  rw [if_pos rfl]
theorem pl_fam {b : Bok} {ts : List Tok} {n : Nat} : ∀ r f x, Dr b x (linesT famL f r ++ ts) f 0 0 0 → f + r ≤ 10 → ∃ y, planL (n + r) x = planL n y ∧ Dr b y ts (f + r) 0 0 0
  | 0, f, x, h, _ => ⟨x, rfl, h⟩
  | r + 1, f, x, h, hf => by
    rw [linesT, List.append_assoc] at h
    obtain ⟨y, e, d⟩ := fam_line h (by omega)
    obtain ⟨a1, a2⟩ := rk_adv d.1
    obtain ⟨z, e2, d2⟩ := pl_fam (n := n) r (f + 1) _ (d.mv a1 a2) (by omega)
    refine ⟨z, ?_, by rw [show f + (r + 1) = f + 1 + r by omega]; exact d2⟩
    rw [show n + (r + 1) = n + r + 1 by omega, pl_step h.1 (by show (300 : Int32) + nI 0 ≠ 260; decide) e d.1]; exact e2
theorem stm_hd (b : Bok) (k : Nat) (ts : List Tok) : hk (stmL b k ++ ts) ≠ 260 := by
  unfold stmL tolL
  split
  · show (300 : Int32) + nI 1 ≠ 260; decide
  · split
    · show (300 : Int32) + nI 4 ≠ 260; decide
    · split
      · show (300 : Int32) + nI 7 ≠ 260; decide
      · show (300 : Int32) + nI 9 ≠ 260; decide
theorem pl_stm {b : Bok} (hW : BW b) {ts : List Tok} {n : Nat} : ∀ r s x, Dr b x (linesT (stmL b) s r ++ ts) (bF b) s 0 0 → s + r ≤ bS b → ∃ y, planL (n + r) x = planL n y ∧ Dr b y ts (bF b) (s + r) 0 0
  | 0, s, x, h, _ => ⟨x, rfl, h⟩
  | r + 1, s, x, h, hf => by
    rw [linesT, List.append_assoc] at h
    obtain ⟨y, e, d⟩ := stm_line hW h (by omega)
    obtain ⟨a1, a2⟩ := rk_adv d.1
    obtain ⟨z, e2, d2⟩ := pl_stm hW (n := n) r (s + 1) _ (d.mv a1 a2) (by omega)
    refine ⟨z, ?_, by rw [show s + (r + 1) = s + 1 + r by omega]; exact d2⟩
    rw [show n + (r + 1) = n + r + 1 by omega, pl_step h.1 (stm_hd _ _ _) e d.1]; exact e2
theorem pl_ord {b : Bok} (hW : BW b) {ts : List Tok} {n : Nat} : ∀ r m c x, Dr b x (linesT (ordL b) m r ++ ts) (bF b) (bS b) m c → m + r ≤ bM b → c ≤ 9 * m → ∃ y c', planL (n + r) x = planL n y ∧ Dr b y ts (bF b) (bS b) (m + r) c' ∧ c' ≤ 9 * (m + r)
  | 0, m, c, x, h, _, hc => ⟨x, c, rfl, h, hc⟩
  | r + 1, m, c, x, h, hf, hc => by
    have hM := hW.2.2.2.1
    have hl := cdT_le b m
    rw [linesT, List.append_assoc] at h
    obtain ⟨y, e, d⟩ := ord_line hW h (by omega) (by omega)
    obtain ⟨a1, a2⟩ := rk_adv d.1
    obtain ⟨z, c', e2, d2, d3⟩ := pl_ord hW (n := n) r (m + 1) _ _ (d.mv a1 a2) (by omega) (by omega)
    refine ⟨z, c', ?_, by rw [show m + (r + 1) = m + 1 + r by omega]; exact d2, by omega⟩
    have hne : hk (ordL b m ++ (linesT (ordL b) (m + 1) r ++ ts)) ≠ 260 := by
      show (300 : Int32) + nI (if bo b m 0 = 1 then 12 else 13) ≠ 260
      split <;> decide
    rw [show n + (r + 1) = n + r + 1 by omega, pl_step h.1 hne e d.1]; exact e2
theorem read_ok {b : Bok} (hW : BW b) {x : XS} (h1 : x.1 1 1 = 0) (h3 : x.1 3 4 = nI ((bookL b).length + 1)) (hT : ∀ j, j < (bookL b).length → x.1 5 j = ((bookL b).getD j (0, 0)).1 ∧ x.2 7 j = ((bookL b).getD j (0, 0)).2) (hE : x.1 5 (bookL b).length = 260) : ∃ c, c ≤ 400 ∧ Dr b (readF x) [] (bF b) (bS b) (bM b) c := by
  have hl := book_len hW
  have hF := hW.1.2
  have hS := hW.2.1
  have hM := hW.2.2.2.1
  have d0 : Dr b (clearF (setI (setI x 34 4 0) 34 5 0)) (bookL b) 0 0 0 0 := by
    have g : ∀ q k, q ≠ 34 → q ≠ 8 → (clearF (setI (setI x 34 4 0) 34 5 0)).1 q k = x.1 q k := fun q k u v => by
      unfold clearF
      rw [rdI_ne v, rdI_ne v, rdI_ne v, rdI_ne v, rdI_ne u, rdI_ne u]
    have g8 : (clearF (setI (setI x 34 4 0) 34 5 0)).1 8 0 = 0 ∧ (clearF (setI (setI x 34 4 0) 34 5 0)).1 8 1 = 0 ∧ (clearF (setI (setI x 34 4 0) 34 5 0)).1 8 7 = 0 ∧ (clearF (setI (setI x 34 4 0) 34 5 0)).1 8 12 = 0 := by
      unfold clearF
      refine ⟨?_, ?_, ?_, ?_⟩
      · rw [rdI_nk (by decide), rdI_nk (by decide), rdI_nk (by decide), rdI_eq]
      · rw [rdI_nk (by decide), rdI_nk (by decide), rdI_eq]
      · rw [rdI_nk (by decide), rdI_eq]
      · rw [rdI_eq]
    have g34 : (clearF (setI (setI x 34 4 0) 34 5 0)).1 34 4 = 0 ∧ (clearF (setI (setI x 34 4 0) 34 5 0)).1 34 5 = 0 := by
      unfold clearF
      refine ⟨?_, ?_⟩
      · rw [rdI_ne (by decide), rdI_ne (by decide), rdI_ne (by decide), rdI_ne (by decide), rdI_nk (by decide), rdI_eq]
      · rw [rdI_ne (by decide), rdI_ne (by decide), rdI_ne (by decide), rdI_ne (by decide), rdI_eq]
    have g2 : (clearF (setI (setI x 34 4 0) 34 5 0)).2 = x.2 := rfl
    generalize clearF (setI (setI x 34 4 0) 34 5 0) = y at *
    refine ⟨⟨⟨0, by omega, g34.1, ?_, fun j hj => ?_, ?_⟩, g34.2, g8.2.2.2, g8.1, by omega, fun i hi => absurd hi (Nat.not_lt_zero _), g8.2.1, by omega, fun i hi => absurd hi (Nat.not_lt_zero _)⟩, (g _ _ (by decide) (by decide)).trans h1, fun k hk => absurd hk (Nat.not_lt_zero _), g8.2.2.1, fun j hj => absurd hj (Nat.not_lt_zero _)⟩
    · rw [g _ _ (by decide) (by decide), Nat.zero_add]; exact h3
    · rw [Nat.zero_add, g _ _ (by decide) (by decide), g2]; exact hT j hj
    · rw [Nat.zero_add, g _ _ (by decide) (by decide)]; exact hE
  unfold bookL at d0
  rw [show linesT (ordL b) 0 (bM b) = linesT (ordL b) 0 (bM b) ++ [] from (List.append_nil _).symm] at d0
  obtain ⟨y1, e1, d1⟩ := pl_fam (n := 400 - bF b) (bF b) 0 _ d0 (by omega)
  rw [Nat.zero_add] at d1
  obtain ⟨y2, e2, d2⟩ := pl_stm hW (n := 400 - bF b - bS b) (bS b) 0 _ d1 (by omega)
  rw [Nat.zero_add] at d2
  obtain ⟨y3, c, e3, d3, hc⟩ := pl_ord hW (n := 400 - bF b - bS b - bM b) (bM b) 0 0 _ d2 (by omega) (by omega)
  rw [Nat.zero_add] at d3 hc
  have e4 : planL (400 - bF b - bS b - bM b) y3 = (true, y3) := by
    rw [show 400 - bF b - bS b - bM b = (399 - bF b - bS b - bM b) + 1 by omega, planL, d3.1.1.next]
    exact if_pos (decide_eq_true rfl)
  have e : planL 400 (clearF (setI (setI x 34 4 0) 34 5 0)) = (true, y3) := by
    rw [show 400 - bF b + bF b = 400 by omega] at e1
    rw [show 400 - bF b - bS b + bS b = 400 - bF b by omega] at e2
    rw [show 400 - bF b - bS b - bM b + bM b = 400 - bF b - bS b by omega] at e3
    rw [e1, e2, e3, e4]
  refine ⟨c, by omega, ?_⟩
  have er : readF x = y3 := by
    unfold readF
    dsimp only
    rw [e]
    dsimp only
    rw [d3.1.1.next, show decide (hk [] = 260) = true from rfl]
    exact if_pos rfl
  rw [er]; exact d3
