/-! Days pass: alike -/
theorem BkC.move2 {R : XS → XS → Prop} (hR : Stab R) {c d : Nat} {x z y w : XS} {F S : Nat} {l r : Nat → Nat} {m m' : Nat} (h : BkC R c x z F S l r m) (hx : ∀ q k, q ≠ 46 → q ≠ 47 → y.1 q k = x.1 q k) (hx2 : y.2 = x.2) (hz : ∀ q k, q ≠ 21 → q ≠ 0 ∨ (k ≠ 0 ∧ k ≠ 13 ∧ k ≠ 14 ∧ k ≠ 15) → w.1 q k = z.1 q k) (hm : m' < 2 ^ S) (e1 : y.1 d 1 = nI m') (e2 : w.1 0 15 = nI m') (e3 : y.1 d 0 = w.1 0 13) (e4 : y.1 d 2 = w.1 0 14) : BkC R d y w F S l r m' := by
  have o : ∀ q k, q ≠ 46 → q ≠ 47 → (ovr d y).1 q k = (ovr c x).1 q k := fun q k h1 h2 => by rw [ovr_1 h1, ovr_1 h1]; exact hx q k h1 h2
  have h' : Bk R (ovr c x) z F S l r m := h
  refine ⟨BkX_of (fun q k hq => o q k (by omega) (by omega)) h'.bx, BkZ_of (fun q k hq => hz q k (by omega) (by omega)) h'.bz, PeaB_of (o _ _ (by decide) (by decide)) (fun k => by show y.2 43 k = x.2 43 k; rw [hx2]) h'.pea, fun k hk => ?_, hm, ovr_c.trans e1, e2, ovr_c.trans e3, ovr_c.trans e4, ?_, ?_, ?_, ?_, hR h'.rest (fun q hq k => ⟨o q k (by omega) (by omega), by show y.2 q k = x.2 q k; rw [hx2]⟩) ⟨fun q k hq => hz q k (by omega) (by omega), hz _ _ (by omega) (by omega), hz _ _ (by omega) (by omega)⟩⟩
  · rw [kind_eq (z := z) (fun i => hz 12 i (by omega) (by omega)), o _ _ (by decide) (by decide), o _ _ (by decide) (by decide), o _ _ (by decide) (by decide), hz _ _ (by omega) (by omega), hz _ _ (by omega) (by omega)]
    exact h'.kin k hk
  · rw [o _ _ (by decide) (by decide)]; exact h'.web.imp id (WebC_of (fun q k hq => o q k (by omega) (by omega)))
  · rw [o _ _ (by decide) (by decide)]; exact h'.land.imp id (LandC_of (o _ _ (by decide) (by decide)) (fun k => by show y.2 41 k = x.2 41 k; rw [hx2]))
  · rw [hz _ _ (by omega) (by omega)]; exact h'.fol.imp id (FolC_of (fun k => hz _ _ (by omega) (by omega)) (hz _ _ (by omega) (by omega)))
  · rw [hz _ _ (by omega) (by omega)]; exact h'.look.imp id (LookC_of (fun k => hz _ _ (by omega) (by omega)) (fun k hk => hz _ _ (by omega) (by omega)))
def OrdsR (x z : XS) (F S : Nat) : Prop := ∃ O, O ≤ 16 ∧ x.1 21 7 = nI O ∧ z.1 11 5 = nI O ∧ ∀ j, j < O → OrdR x z F S j
theorem OrdsR_of {x z y w : XS} {F S : Nat} (h1 : ∀ q k, q = 21 ∨ (27 ≤ q ∧ q ≤ 33) → y.1 q k = x.1 q k) (h2 : ∀ q k, q11 q → w.1 q k = z.1 q k) (h : OrdsR x z F S) : OrdsR y w F S := by
  obtain ⟨O, a1, a2, a3, a4⟩ := h
  exact ⟨O, a1, by rw [h1 _ _ (by omega)]; exact a2, by rw [h2 11 5 (by unfold q11; omega)]; exact a3, fun j hj => OrdR_of (fun q k hq => h1 q k (by omega)) (fun q k hq => h2 q k (by unfold q11; omega)) (a4 j hj)⟩
theorem ords_1 {c : Nat} {x : XS} {q k : Nat} (h : jq q) (hc : q ≠ c) (n : Nat) : (itP (ordF c) n x).1 q k = x.1 q k :=
  itP_rel (P := fun _ (u : XS) => u.1 q k = x.1 q k) rfl (fun j _ u hu => (ord_1 h hc).trans hu)
theorem ords_ok {R : XS → XS → Prop} (hR : Stab R) {c : Nat} (hc : isC c) {F S : Nat} {l r : Nat → Nat} {O : Nat} (hO : O ≤ 16) {x z : XS} (hj : ∀ j, j < O → OrdR x z F S j) : ∀ (n j m : Nat) (zj : XS), j + n = O → BkC R c (itP (ordF c) j x) zj F S l r m → (∀ q k, q11 q → zj.1 q k = z.1 q k) → ∃ z' m', mdayL n j zj = some z' ∧ BkC R c (itP (ordF c) O x) z' F S l r m' ∧ ∀ q k, q11 q → z'.1 q k = z.1 q k
  | 0, j, m, zj, e, hB, hf => by
    have : j = O := by omega
    subst this
    exact ⟨zj, m, rfl, hB, hf⟩
  | n + 1, j, m, zj, e, hB, hf => by
    have hc' := hc
    unfold isC at hc'
    have h1 : OrdR (itP (ordF c) j x) zj F S j := OrdR_of (fun q k hq => ords_1 (by unfold jq; omega) (by omega) j) (fun q k hq => hf q k (by unfold q11; omega)) (hj j (by omega))
    obtain ⟨z1, m1, e1, e2, e3⟩ := step_ok hR hc (show j < 16 by omega) hB h1
    rw [mdayL, e1]
    exact ords_ok hR hc hO hj n (j + 1) m1 z1 (by omega) e2 (fun q k hq => (e3 q k hq).trans (hf q k hq))
theorem day_ok {R : XS → XS → Prop} (hR : Stab R) {c : Nat} (hc : isC c) {F S : Nat} {l r : Nat → Nat} {m : Nat} {x z : XS} (hB : BkC R c x z F S l r m) (hO : OrdsR x z F S) : ∃ z' m', mdayO z = some z' ∧ BkC R c (dayF c x) z' F S l r m' ∧ (∀ q k, q11 q → z'.1 q k = z.1 q k) ∧ OrdsR (dayF c x) z' F S := by
  have hO' := hO
  obtain ⟨O, a1, a2, a3, a4⟩ := hO'
  have hc' := hc
  unfold isC at hc'
  obtain ⟨z1, m1, e1, e2, e3⟩ := ords_ok hR hc a1 a4 O 0 m z (by omega) hB (fun _ _ _ => rfl)
  have hd : dayF c x = setI (itP (ordF c) O x) c 0 ((itP (ordF c) O x).1 c 0 + 1) := by
    unfold dayF; rw [a2, nI_clamp (by omega)]
  have hfr : ∀ q k, q11 q → (setI z1 0 13 (z1.1 0 13 + 1)).1 q k = z.1 q k := fun q k hq => (rdI_ne hq.1).trans (e3 q k hq)
  refine ⟨setI z1 0 13 (z1.1 0 13 + 1), m1, ?_, ?_, hfr, ?_⟩
  · unfold mdayO; rw [a3, nI_clamp (by omega), e1]
  · rw [hd]
    refine e2.move hR hc (fun q k h => rdI_ne h) rfl (fun q k h => ?_) (Bk.lm e2) ?_ ?_ ?_ ?_
    · rcases h with h | h
      · exact rdI_ne h
      · exact rdI_nk h.1
    · exact (rdI_nk (by decide)).trans e2.s1
    · exact (rdI_nk (by decide)).trans (Bk.zs e2)
    · rw [rdI_eq, rdI_eq, e2.d1]
    · rw [rdI_nk (by decide), rdI_nk (by decide)]; exact e2.c1
  · refine OrdsR_of (fun q k hq => ?_) hfr hO
    rw [hd, rdI_ne (by omega)]
    exact ords_1 (by unfold jq; omega) (by omega) O
theorem pass_ok {R : XS → XS → Prop} (hR : Stab R) {c : Nat} (hc : isC c) {F S : Nat} {l r : Nat → Nat} {x z : XS} : ∀ (n i m : Nat) (zi : XS), BkC R c (itP (fun _ => dayF c) i x) zi F S l r m → OrdsR (itP (fun _ => dayF c) i x) zi F S → (∀ q k, q11 q → zi.1 q k = z.1 q k) → ∃ z' m', mpassL n zi = some z' ∧ BkC R c (itP (fun _ => dayF c) (i + n) x) z' F S l r m' ∧ OrdsR (itP (fun _ => dayF c) (i + n) x) z' F S ∧ ∀ q k, q11 q → z'.1 q k = z.1 q k
  | 0, i, m, zi, hB, hO, hf => ⟨zi, m, rfl, hB, hO, hf⟩
  | n + 1, i, m, zi, hB, hO, hf => by
    obtain ⟨z1, m1, e1, e2, e3, e4⟩ := day_ok hR hc hB hO
    rw [mpassL, e1, show i + (n + 1) = (i + 1) + n by omega]
    exact pass_ok hR hc n (i + 1) m1 z1 e2 e4 (fun q k hq => (e3 q k hq).trans (hf q k hq))
theorem passF_ok {R : XS → XS → Prop} (hR : Stab R) {c : Nat} (hc : isC c) {F S : Nat} {l r : Nat → Nat} {m : Nat} {x z : XS} (hB : BkC R c x z F S l r m) (hO : OrdsR x z F S) (p : Int32) : ∃ z' m', mpassO p z = some z' ∧ BkC R c (passF c p x) z' F S l r m' ∧ OrdsR (passF c p x) z' F S ∧ ∀ q k, q11 q → z'.1 q k = z.1 q k := by
  obtain ⟨z', m', e1, e2, e3, e4⟩ := pass_ok hR hc (x := x) (z := z) p.toNatClampNeg 0 m z hB hO (fun _ _ _ => rfl)
  rw [Nat.zero_add] at e2 e3
  exact ⟨z', m', e1, e2, e3, e4⟩
theorem push_0 {k : Nat} (hk : k < 13) {w nx : Int32} {x : XS} {u : Int32 × XS} (h : pushO w nx x = some u) : u.2.1 0 k = x.1 0 k := by
  unfold pushO at h
  repeat' split at h
  all_goals first | (cases h; done) | (cases h; with_reducible rfl) | (cases h; with_reducible exact fol_0 (by omega) (by omega)) | (cases h; with_reducible exact mlook_0 (by omega))
theorem co_0 {k : Nat} (hk : k < 13) {e : Int32} : ∀ (n : Nat) (nx tp : Int32) (x y : XS), coL e n nx tp x = some y → y.1 0 k = x.1 0 k
  | 0, _, _, _, _, h => by simp [coL] at h
  | n + 1, nx, tp, x, y, h => by
    rw [coL] at h
    split at h
    · cases h; rfl
    · split at h
      · split at h
        · split at h
          · split at h
            · rw [co_0 hk n _ _ _ _ h, rdI_ne (by decide)]
            · cases h
          · split at h
            · split at h
              · rw [co_0 hk n _ _ _ _ h, rdI_ne (by decide)]
              · cases h
            · split at h
              · split at h
                · rw [co_0 hk n _ _ _ _ h, rdI_ne (by decide)]
                · cases h
              · cases h
        · split at h
          · split at h
            · cases h
            · rename_i u hu
              rw [co_0 hk n _ _ _ _ h, rdI_ne (by decide), push_0 hk hu]
          · cases h
      · cases h
theorem mdue_0 {k : Nat} (hk : k < 13) {j : Int32} {x : XS} {u : Bool × XS} (h : mdueO j x = some u) : u.2.1 0 k = x.1 0 k := by
  unfold mdueO at h
  split at h
  · split at h
    · cases h; rfl
    · split at h
      · cases h
      · rename_i y hy
        cases h
        exact co_0 hk _ _ _ _ _ hy
  · cases h
theorem mord_0 {k : Nat} (hk : k < 13) {j : Int32} {x : XS} : (mordF j x).2.1 0 k = x.1 0 k := by unfold mordF; exact rdI_nk (by omega)
theorem mstep_0 {k : Nat} (hk : k < 13) {j : Nat} {x y : XS} (h : mstepO j x = some y) : y.1 0 k = x.1 0 k := by
  unfold mstepO at h
  split at h
  · cases h
  · rename_i u hu
    split at h
    · split at h
      · cases h
        split
        · rw [rdI_nk (by omega), mord_0 hk, mdue_0 hk hu]
        · rw [mord_0 hk, mdue_0 hk hu]
      · cases h
    · cases h; exact mdue_0 hk hu
theorem mdayL_0 {k : Nat} (hk : k < 13) : ∀ (n j : Nat) (x y : XS), mdayL n j x = some y → y.1 0 k = x.1 0 k
  | 0, _, _, _, h => by rw [mdayL] at h; cases h; rfl
  | n + 1, j, x, y, h => by
    rw [mdayL] at h
    split at h
    · cases h
    · rename_i u hu
      rw [mdayL_0 hk n _ _ _ h, mstep_0 hk hu]
theorem mday_0 {k : Nat} (hk : k < 13) {x y : XS} (h : mdayO x = some y) : y.1 0 k = x.1 0 k := by
  unfold mdayO at h
  split at h
  · cases h
  · rename_i u hu
    cases h
    rw [rdI_nk (by omega), mdayL_0 hk _ _ _ _ hu]
theorem mpass_0 {k : Nat} (hk : k < 13) : ∀ (n : Nat) (x y : XS), mpassL n x = some y → y.1 0 k = x.1 0 k
  | 0, _, _, h => by rw [mpassL] at h; cases h; rfl
  | n + 1, x, y, h => by
    rw [mpassL] at h
    split at h
    · cases h
    · rename_i u hu
      rw [mpass_0 hk n _ _ h, mday_0 hk hu]
theorem mpass_00 (n : Nat) (x y : XS) (h : mpassL n x = some y) : y.1 0 0 = x.1 0 0 := mpass_0 (by decide) n x y h
def OrdQ (R : XS → XS → Prop) : Prop := ∀ x z F S, R x z → F ≤ 10 → S ≤ 20 → x.1 21 0 = nI F → x.1 21 1 = nI S → OrdsR x z F S
theorem Bk.ords {R : XS → XS → Prop} (hQ : OrdQ R) {x z : XS} {F S : Nat} {l r : Nat → Nat} {m : Nat} (h : Bk R x z F S l r m) : OrdsR x z F S := hQ x z F S h.rest h.bx.1 h.bx.2.1 h.bx.2.2.1 h.bx.2.2.2.1
theorem to46 {R : XS → XS → Prop} {x z : XS} {F S : Nat} {l r : Nat → Nat} {m : Nat} (h : Bk R x z F S l r m) : BkC R 46 x z F S l r m := by
  unfold BkC; rw [ovr_46]; exact h
theorem of46 {R : XS → XS → Prop} {x z : XS} {F S : Nat} {l r : Nat → Nat} {m : Nat} (h : BkC R 46 x z F S l r m) : Bk R x z F S l r m := by
  unfold BkC at h; rw [ovr_46] at h; exact h
theorem needDy (x : XS) (p : Int32) : (f_X8_needDays p x = some (.inr (none, x)) ∧ isInB p 1 30 = true) ∨ (f_X8_needDays p x = some (.inl ("java/lang/IllegalArgumentException", x)) ∧ isInB p 1 30 = false) := by
  unfold f_X8_needDays isInB
  by_cases h1 : p < 1
  · rw [if_pos h1, if_pos h1]; exact Or.inr ⟨rfl, rfl⟩
  · rw [if_neg h1, if_neg h1]
    by_cases h2 : 30 < p
    · have h3 : ¬ p ≤ 30 := fun h => by rw [Int32.le_iff_toInt_le] at h; rw [Int32.lt_iff_toInt_lt] at h2; omega
      rw [if_neg h3, if_pos h2]; exact Or.inr ⟨rfl, rfl⟩
    · have h3 : p ≤ 30 := by rw [Int32.le_iff_toInt_le]; rw [Int32.lt_iff_toInt_lt] at h2; omega
      rw [if_pos h3, if_neg h2]; exact Or.inl ⟨rfl, rfl⟩
theorem ag_pass {R : XS → XS → Prop} (hR : Stab R) (hQ : OrdQ R) (p : Int32) : AgT (IV R) code1 cvI (fun E => E = "java/lang/IllegalArgumentException") (f_X8_passDays p) (f_X10_passDays p) := by
  rintro x z ⟨F, S, l, r, m, h⟩
  have h0 := h.r0 hR
  unfold f_X8_passDays f_X10_passDays
  rw [show setI z 0 0 0 = r0 z from rfl]
  rcases needDy x p with ⟨d1, d2⟩ | ⟨d1, d2⟩
  · rw [d1, if_neg (b2i_n d2), cdec_t h0.mok, og_tr]
    simp only [ob_some1, rbo_inr1]
    obtain ⟨z', m', e1, e2, e3, e4⟩ := passF_ok hR (Or.inl rfl) (to46 h0) (h0.ords hQ) p
    rw [e1, ob_some1]
    have e5 := of46 e2
    have z00' : z'.1 0 0 = 0 := (mpass_00 _ _ _ e1).trans (r00 z)
    exact Or.inr ⟨_, _, _, rfl, rfl, z00', by rw [e5.co, h0.co], IVi e5⟩
  · rw [d1, if_pos (b2i_f d2)]
    exact Or.inl ⟨_, x, _, rfl, rfl, z00 _ _, rfl, IVi (h0.z0 hR 1)⟩
