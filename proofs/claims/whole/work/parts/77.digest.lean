/-! The digest: the same numbers in the same order -/
theorem og_tr {α : Type} (r : Option α) : og true r = r := if_pos rfl
theorem mix_self (x : XS) (n : Nat) : mixX x x n = x := by
  refine Prod.ext (funext fun i => funext fun j => ?_) (funext fun i => funext fun j => ?_)
  · show (if i = n then x.1 i j else x.1 i j) = _
    split <;> rfl
  · show (if i = n then x.2 i j else x.2 i j) = _
    split <;> rfl
theorem mix_1 {u v : XS} {n q k : Nat} (h : q ≠ n) : (mixX u v n).1 q k = u.1 q k := if_neg h
theorem mix_n {u v : XS} {n k : Nat} : (mixX u v n).1 n k = v.1 n k := if_pos rfl
theorem Bk.c21 {R : XS → XS → Prop} (hR : Stab R) {x z w : XS} {F S : Nat} {l r : Nat → Nat} {m : Nat} (h : Bk R x z F S l r m) (e : ∀ q k, q ≠ 21 → w.1 q k = z.1 q k) : Bk R x w F S l r m := by
  refine h.atZ hR ⟨fun q k hq => e q k (by omega), e _ _ (by decide), e _ _ (by decide)⟩ (fun k _ => e _ _ (by decide)) ?_ ?_
  · rw [e _ _ (by decide)]; exact h.fol.imp id (FolC_of (fun k => e _ _ (by decide)) (e _ _ (by decide)))
  · rw [e _ _ (by decide)]; exact h.look.imp id (LookC_of (fun k => e _ _ (by decide)) (fun k _ => e _ _ (by decide)))
theorem dg_st {R : XS → XS → Prop} {x y : XS} {F S : Nat} {l r : Nat → Nat} {m : Nat} (hB : Bk R x y F S l r m) : ∀ (n j : Nat) (acc : Int64), S - j < n → j ≤ S → ∃ acc', f_X8_digestStatements_L5 n acc (nI j) x = some (acc', x) ∧ f_X10_digest_L140 n acc (nI j) y = f_X10_digest_L232 30 acc' 0 y
  | 0, _, _, h, _ => absurd h (Nat.not_lt_zero _)
  | n + 1, j, acc, hn, hj => by
    have hS := hB.bx.2.1
    rw [f_X8_digestStatements_L5, f_X10_digest_L140, hB.bx.2.2.2.1, hB.bz.2.2.2.1, mix_self]
    by_cases hd : S ≤ j
    · rw [if_pos ((nI_leq (by omega) (by omega)).mpr hd), if_pos ((nI_leq (by omega) (by omega)).mpr hd)]
      exact ⟨acc, rfl, rfl⟩
    · obtain ⟨k1, k2, k3⟩ := hB.kin j (by omega)
      rw [if_neg (fun h => hd ((nI_leq (by omega) (by omega)).mp h)), if_neg (fun h => hd ((nI_leq (by omega) (by omega)).mp h)), inB_nI (show j < 20 by omega) (by decide), og_tr, og_tr, og_tr, hB.xs, hB.zs, hasB_bit (show j < 32 by omega), mhasB_bit (show j < 32 by omega), nI_clamp (by omega), entI_nI (show j < 20 by omega) (by decide), entI_nI (show j < 20 by omega) (by decide), entI_nI (show j < 20 by omega) (by decide), k1, k2, k3, show nI j + 1 = nI (j + 1) from nI_addN j 1]
      by_cases hb : b2i (bit (nI m) j) = 0
      · rw [if_pos hb, if_pos hb]; exact dg_st hB n (j + 1) _ (by omega) (by omega)
      · rw [if_neg hb, if_neg hb]; exact dg_st hB n (j + 1) _ (by omega) (by omega)
theorem fol_dia2 {z : XS} {F S : Nat} {l r : Nat → Nat} {s : Int32} (h : FolC z F S l r s) : DIA z := fun d hd => by
  rw [h.1 d hd d (by omega)]; exact RR_refl d
theorem dg_step {R : XS → XS → Prop} (hR : Stab R) {F S : Nat} {l r : Nat → Nat} {m : Nat} (n j : Nat) (acc : Int64) (x y : XS) (hB : Bk R x y F S l r m) (hd : ¬ 2 * F ≤ j) : ∃ acc' x' y', f_X8_digestClaims_L5 (n + 1) acc (nI j) x = f_X8_digestClaims_L5 n acc' (nI (j + 1)) x' ∧ f_X10_digest_L232 (n + 1) acc (nI j) y = f_X10_digest_L232 n acc' (nI (j + 1)) y' ∧ Bk R x' y' F S l r m ∧ y'.1 0 17 = nI m := by
  have hF := hB.bx.1
  rw [f_X8_digestClaims_L5, f_X10_digest_L232, hB.bx.2.2.1, hB.bz.2.2.1, mix_self, two_nI]
  rw [if_neg (fun h => hd ((nI_leq (by omega) (by omega)).mp h)), if_neg (fun h => hd ((nI_leq (by omega) (by omega)).mp h)), cdec_t hB.mok, inB_nI (show j < 20 by omega) (by decide)]
  simp only [og_tr]
  rw [reach_eq (show j < 20 by omega), nI_clamp (show j < 2 ^ 31 by omega), show nI j + 1 = nI (j + 1) from nI_addN j 1]
  obtain ⟨a1, a2⟩ := hB.fol1 hR
  obtain ⟨b1, b2⟩ := a1.webx hR
  have hm1 : ∀ q k, q ≠ 21 → (mixX (mfol y) y 21).1 q k = (mfol y).1 q k := fun q k h => mix_1 h
  have c1 := b1.c21 hR hm1
  have c2 : FolC (mixX (mfol y) y 21) F S l r (nI m) := FolC_of (fun k => hm1 _ _ (by decide)) (hm1 _ _ (by decide)) a2
  have r1 : (webLook (x.1 46 1) x).1 39 j = (mfol y).1 9 j := row_same b2 a2 hF (by omega)
  rw [r1]
  generalize (mfol y).1 9 j = row
  generalize mixX (mfol y) y 21 = y1 at c1 c2
  generalize webLook (x.1 46 1) x = x1 at c1
  obtain ⟨d1, d2⟩ := c1.fol1 hR
  obtain ⟨e1, e2⟩ := d1.webx hR
  rw [cdec_t c1.mok, cdec_t (fun _ => fol_dia2 c2)]
  simp only [og_tr]
  have s1 : smF (mfol y1) (nI j) = nI (lst (RR F S l r (nI m)) j) := smF_eq d2.1 (by omega) (RR_refl j)
  have s2 : lowI (togetherF (webLook (x1.1 46 1) x1) (nI j)) = nI (lst (RR F S l r (nI m)) j) := part_no (by omega) e2.2.2.1 e2.1 (by omega) (RR_refl j)
  rw [s1, s2]
  have f1 := e1.c21 hR (w := mixX (mfol y1) y1 21) (fun q k h => mix_1 h)
  generalize mixX (mfol y1) y1 21 = y2 at f1
  generalize webLook (x1.1 46 1) x1 = x2 at f1
  rw [cdec_t f1.mok, og_tr]
  obtain ⟨g1, g2⟩ := f1.lookz hR
  have g3 : (mlook (y2.1 0 15) y2).1 0 17 = nI m := by
    have := (look_ok f1.bz f1.look f1.ne).2
    rw [f1.zs]; exact this
  rw [f1.cntw (show j < 2 * F by omega), g2.2.2.2 j (by omega)]
  have i1 := (g1.landx hR).c21 hR (w := mixX (mlook (y2.1 0 15) y2) y2 21) (fun q k h => mix_1 h)
  exact ⟨_, _, _, rfl, rfl, i1, by rw [mix_1 (by decide)]; exact g3⟩
theorem dg_cl {R : XS → XS → Prop} (hR : Stab R) {F S : Nat} {l r : Nat → Nat} {m : Nat} : ∀ (n j : Nat) (acc : Int64) (x y : XS), Bk R x y F S l r m → y.1 0 17 = nI m → 2 * F - j < n → j ≤ 2 * F → ∃ acc' x' y', f_X8_digestClaims_L5 n acc (nI j) x = some (acc', x') ∧ f_X10_digest_L232 n acc (nI j) y = f_X10_digest_L291 30 acc' 0 y' ∧ Bk R x' y' F S l r m ∧ y'.1 0 17 = nI m := by
  intro n
  induction n with
  | zero => intro j acc x y _ _ h _; exact absurd h (Nat.not_lt_zero _)
  | succ n ih =>
    intro j acc x y hB h17 hn hj
    have hF := hB.bx.1
    by_cases hd : 2 * F ≤ j
    · rw [f_X8_digestClaims_L5, f_X10_digest_L232, hB.bx.2.2.1, hB.bz.2.2.1, mix_self, two_nI, if_pos ((nI_leq (by omega) (by omega)).mpr hd), if_pos ((nI_leq (by omega) (by omega)).mpr hd)]
      exact ⟨acc, x, y, rfl, rfl, hB, h17⟩
    · obtain ⟨acc', x', y', e1, e2, e3, e4⟩ := dg_step hR n j acc x y hB hd
      rw [e1, e2]
      exact ih (j + 1) acc' x' y' e3 e4 (by omega) (by omega)
theorem dg_pc {R : XS → XS → Prop} {x y : XS} {F S : Nat} {l r : Nat → Nat} {m : Nat} (hB : Bk R x y F S l r m) {t : Int32} (ht : y.1 0 20 = t) (h18 : ¬ y.1 0 18 ≤ 0) : ∀ (n j : Nat) (acc : Int64), F - j < n → j ≤ F → ∃ acc', f_X8_digestPeace_L40 n acc t (nI j) x = some (acc', x) ∧ f_X10_digest_L291 n acc (nI j) y = some (acc', y)
  | 0, _, _, h, _ => absurd h (Nat.not_lt_zero _)
  | n + 1, j, acc, hn, hj => by
    have hF := hB.bx.1
    rw [f_X8_digestPeace_L40, f_X10_digest_L291, hB.bx.2.2.1, hB.bz.2.2.1]
    by_cases hd : F ≤ j
    · rw [if_pos ((nI_leq (by omega) (by omega)).mpr hd), if_pos ((nI_leq (by omega) (by omega)).mpr hd)]
      exact ⟨acc, rfl, rfl⟩
    · rw [if_neg (fun h => hd ((nI_leq (by omega) (by omega)).mp h)), if_neg (fun h => hd ((nI_leq (by omega) (by omega)).mp h)), if_neg h18, ht, hasB_bit (show j < 32 by omega), mhasB_bit (show j < 32 by omega), show nI j + 1 = nI (j + 1) from nI_addN j 1]
      by_cases hb : b2i (bit t j) = 0
      · rw [if_pos hb, if_pos hb]; exact dg_pc hB ht h18 n (j + 1) _ (by omega) (by omega)
      · rw [if_neg hb, if_neg hb]; exact dg_pc hB ht h18 n (j + 1) _ (by omega) (by omega)
theorem dg_end {R : XS → XS → Prop} (hR : Stab R) {x y : XS} {F S : Nat} {l r : Nat → Nat} {m : Nat} (hB : Bk R x y F S l r m) (h17 : y.1 0 17 = nI m) (acc : Int64) : ∃ acc' x', f_X8_digestPeace acc x = some (acc', x') ∧ f_X10_digest_L291 30 acc 0 y = some (acc', y) ∧ Bk R x' y F S l r m := by
  have hF := hB.bx.1
  have hL : LookC y F S l r (nI m) := by
    rcases hB.look with h | h
    · exact absurd (h17.symm.trans h) hB.ne
    · rw [h17] at h; exact h
  have hc := ct_1024 (P := PA l r (nI m) S) hF
  unfold f_X8_digestPeace
  rw [hB.cnt]
  have h1 := hB.landx hR
  generalize landLook (x.1 46 1) x = x1 at h1
  by_cases he : nI (fb_ct (PA l r (nI m) S) (2 ^ F)) = 0
  · rw [if_pos he]
    refine ⟨acc, x1, rfl, ?_, h1⟩
    rw [f_X10_digest_L291, hL.1, he]
    split
    · rfl
    · rfl
  · rw [if_neg he]
    obtain ⟨r1, -⟩ := h1.ridx hR
    have ht := told_same hR h1 hL
    have h18 : ¬ y.1 0 18 ≤ 0 := by
      rw [hL.1]
      exact fun h => he ((nI_eq0 (by omega)).mpr ((nI_le0 (by omega)).mp h))
    obtain ⟨acc', e1, e2⟩ := dg_pc r1 ht.symm h18 30 0 acc (by omega) (Nat.zero_le _)
    exact ⟨acc', _, e1, e2, r1⟩
def dgs (e : Nat → Int32) : Nat → Int64 → Int64
  | 0, a => a
  | j + 1, a => dgs e j a * 31 + (e j).toInt64
theorem dg_hd {y : XS} : ∀ (n j : Nat) (a : Int64), 9 - j < n → j ≤ 9 → f_X10_digest_L107 n (dgs (y.1 21) j a) 9 (nI j) y = f_X10_digest_L140 30 (dgs (y.1 21) 9 a) 0 y
  | 0, _, _, h, _ => absurd h (Nat.not_lt_zero _)
  | n + 1, j, a, hn, hj => by
    rw [f_X10_digest_L107, show (9 : Int32) = nI 9 from rfl]
    by_cases hd : 9 ≤ j
    · have e : j = 9 := by omega
      rw [e, if_pos ((nI_leq (by decide) (by decide)).mpr (Nat.le_refl 9))]
    · rw [if_neg (fun h => hd ((nI_leq (by omega) (by omega)).mp h)), inB_nI (show j < 9 by omega) (by decide), og_tr, nI_clamp (by omega), show nI j + 1 = nI (j + 1) from nI_addN j 1]
      exact dg_hd n (j + 1) a (by omega) (by omega)
def dD0 (x : XS) : XS := clr (setI x 0 0 0) 21
def dD1 (x : XS) : XS := setI (dD0 x) 21 (0 : Int32).toNatClampNeg ((dD0 x).1 11 0)
def dD2 (x : XS) : XS := setI (dD1 x) 21 (1 : Int32).toNatClampNeg ((dD1 x).1 11 1)
def dD3 (x : XS) : XS := setI (dD2 x) 21 (2 : Int32).toNatClampNeg ((dD2 x).1 11 5)
def dD4 (x : XS) : XS := setI (dD3 x) 21 (3 : Int32).toNatClampNeg ((dD3 x).1 0 13)
def dD5 (x : XS) : XS := setI (dD4 x) 21 (4 : Int32).toNatClampNeg ((dD4 x).1 0 14)
def dD6 (x : XS) : XS := setI (dD5 x) 21 (5 : Int32).toNatClampNeg ((dD5 x).1 0 2)
def dD7 (x : XS) : XS := setI (dD6 x) 21 (6 : Int32).toNatClampNeg (bcI ((dD6 x).1 0 15))
def dD8 (x : XS) : XS := setI (mixX (mfol (dD7 x)) (dD7 x) 21) 21 (7 : Int32).toNatClampNeg ((mfol (dD7 x)).1 0 23)
def dD9 (x : XS) : XS := setI (mixX (mlook ((dD8 x).1 0 15) (dD8 x)) (dD8 x) 21) 21 (8 : Int32).toNatClampNeg ((mlook ((dD8 x).1 0 15) (dD8 x)).1 0 18)
theorem dg_eq (x : XS) : f_X10_digest x = og (inB 0 9) (og (inB 1 9) (og (inB 2 9) (og (inB 3 9) (og (inB 4 9) (og (inB 5 9) (og (inB 6 9) (og (cdec (MOK (dD7 x))) (og (inB 7 9) (og (cdec (MOK (dD8 x))) (og (inB 8 9) (f_X10_digest_L107 30 947 9 0 (dD9 x)))))))))))) := rfl
