/-! The plain questions: both answer alike -/
theorem IVi {R : XS → XS → Prop} {x z : XS} {F S : Nat} {l r : Nat → Nat} {m : Nat} (h : Bk R x z F S l r m) : IV R x z := ⟨F, S, l, r, m, h⟩
theorem Bk.mk1 {R : XS → XS → Prop} {x z : XS} {F S : Nat} {l r : Nat → Nat} {m : Nat} (h : Bk R x z F S l r m) : MK z := by
  obtain ⟨hF, hS, eF, eS, hlt, hlr⟩ := h.bz
  refine ⟨⟨by rw [eS, nI_clamp (by omega)]; exact hS, by rw [eF, two_nI, nI_clamp (by omega)]; omega, fun j hj => ?_⟩, ⟨F, hF, eF⟩, ⟨S, hS, eS⟩⟩
  rw [eS, nI_clamp (by omega)] at hj
  obtain ⟨q1, q2⟩ := hlt j hj
  exact ⟨⟨l j, by omega, (hlr j hj).1⟩, ⟨r j, by omega, (hlr j hj).2⟩⟩
theorem Bk.mok {R : XS → XS → Prop} {x z : XS} {F S : Nat} {l r : Nat → Nat} {m : Nat} (h : Bk R x z F S l r m) : MOK z := h.mk1.1
theorem code2_1 : code2 "java/lang/IndexOutOfBoundsException" = 1 := if_pos rfl
theorem code2_2 : code2 "java/lang/IllegalStateException" = 2 := if_neg (by decide)
theorem Bk.ne {R : XS → XS → Prop} {x z : XS} {F S : Nat} {l r : Nat → Nat} {m : Nat} (h : Bk R x z F S l r m) : nI m ≠ -1 := nI_ne1 (small_m h.bz.2.1 h.lm)
/-- what the class counts -/
theorem Bk.cnt {R : XS → XS → Prop} {x z : XS} {F S : Nat} {l r : Nat → Nat} {m : Nat} (h : Bk R x z F S l r m) : countF x (x.1 46 1) = nI (fb_ct (PA l r (nI m) S) (2 ^ F)) := by
  rw [h.xs]; exact count_eq h.bx h.pea h.land h.ne
theorem Bk.cntw {R : XS → XS → Prop} {x z : XS} {F S : Nat} {l r : Nat → Nat} {m : Nat} (h : Bk R x z F S l r m) {c : Nat} (hc : c < 2 * F) : countWithF x (x.1 46 1) (nI c) = nI (fb_ct (fun p => PA l r (nI m) S p && holdsP p c) (2 ^ F)) := by
  have := h.bx.1
  rw [h.xs]; exact countWith_eq h.bx h.pea h.land h.ne (by omega)
theorem Bk.landx {R : XS → XS → Prop} (hR : Stab R) {x z : XS} {F S : Nat} {l r : Nat → Nat} {m : Nat} (h : Bk R x z F S l r m) : Bk R (landLook (x.1 46 1) x) z F S l r m := by
  rw [h.xs]; exact (h.land1 hR h.ne).1
theorem Bk.webx {R : XS → XS → Prop} (hR : Stab R) {x z : XS} {F S : Nat} {l r : Nat → Nat} {m : Nat} (h : Bk R x z F S l r m) : Bk R (webLook (x.1 46 1) x) z F S l r m ∧ WebC (webLook (x.1 46 1) x) F S l r (nI m) := by
  rw [h.xs]; exact h.web1 hR h.ne
theorem Bk.lookz {R : XS → XS → Prop} (hR : Stab R) {x z : XS} {F S : Nat} {l r : Nat → Nat} {m : Nat} (h : Bk R x z F S l r m) : Bk R x (mlook (z.1 0 15) z) F S l r m ∧ LookC (mlook (z.1 0 15) z) F S l r (nI m) := by
  rw [h.zs]; exact h.look1 hR h.ne
theorem ag_families {R : XS → XS → Prop} (hR : Stab R) : AgN (IV R) f_X8_families (fun z => some (z.1 11 0, r0 z)) := by
  rintro x z ⟨F, S, l, r, m, h⟩
  exact ⟨nI F, x, r0 z, by unfold f_X8_families; rw [h.bx.2.2.1], by dsimp only; rw [h.bz.2.2.1], IVi (h.r0 hR)⟩
theorem ag_statements {R : XS → XS → Prop} (hR : Stab R) : AgN (IV R) f_X8_statements (fun z => some (z.1 11 1, r0 z)) := by
  rintro x z ⟨F, S, l, r, m, h⟩
  exact ⟨nI S, x, r0 z, by unfold f_X8_statements; rw [h.bx.2.2.2.1], by dsimp only; rw [h.bz.2.2.2.1], IVi (h.r0 hR)⟩
theorem ag_days {R : XS → XS → Prop} (hR : Stab R) : AgN (IV R) f_X8_days (fun z => some (z.1 0 13, r0 z)) := by
  rintro x z ⟨F, S, l, r, m, h⟩
  exact ⟨x.1 46 0, x, r0 z, rfl, by dsimp only; rw [h.dy], IVi (h.r0 hR)⟩
theorem ag_carried {R : XS → XS → Prop} (hR : Stab R) : AgN (IV R) f_X8_ordersCarriedOut (fun z => some (z.1 0 14, r0 z)) := by
  rintro x z ⟨F, S, l, r, m, h⟩
  exact ⟨x.1 46 2, x, r0 z, rfl, by dsimp only; rw [h.co], IVi (h.r0 hR)⟩
theorem ag_standing {R : XS → XS → Prop} (hR : Stab R) : AgN (IV R) f_X8_standing (fun z => some (bcI (z.1 0 15), r0 z)) := by
  rintro x z ⟨F, S, l, r, m, h⟩
  exact ⟨bcI (nI m), x, r0 z, by unfold f_X8_standing; rw [h.xs], by dsimp only; rw [h.zs], IVi (h.r0 hR)⟩
theorem ag_errorAt {R : XS → XS → Prop} (hR : Stab R) (hE : ∀ x z, R x z → x.1 0 10 = z.1 0 3) : AgN (IV R) f_X8_errorAt (fun z => some (z.1 0 3, r0 z)) := by
  rintro x z ⟨F, S, l, r, m, h⟩
  exact ⟨x.1 0 10, x, r0 z, rfl, by dsimp only; rw [hE _ _ h.rest], IVi (h.r0 hR)⟩
theorem ag_tapeBytes {R : XS → XS → Prop} (hR : Stab R) (hE : ∀ x z, R x z → x.1 1 1 = z.1 0 2) : AgN (IV R) f_X8_tapeBytes (fun z => some (z.1 0 2, r0 z)) := by
  rintro x z ⟨F, S, l, r, m, h⟩
  exact ⟨x.1 1 1, x, r0 z, rfl, by dsimp only; rw [hE _ _ h.rest], IVi (h.r0 hR)⟩
theorem ag_orders {R : XS → XS → Prop} (hR : Stab R) (hE : ∀ x z, R x z → x.1 21 7 = z.1 11 5) : AgN (IV R) f_X8_orders (fun z => some (z.1 11 5, r0 z)) := by
  rintro x z ⟨F, S, l, r, m, h⟩
  exact ⟨x.1 21 7, x, r0 z, rfl, by dsimp only; rw [hE _ _ h.rest], IVi (h.r0 hR)⟩
theorem ag_kindOf {R : XS → XS → Prop} (hR : Stab R) (p : Int32) : AgT (IV R) code1 cvI (fun E => E = "java/lang/IndexOutOfBoundsException") (f_X8_kindOf p) (fun z => some (kindU p (r0 z))) := by
  rintro x z ⟨F, S, l, r, m, h⟩
  have h0 := h.r0 hR
  unfold f_X8_kindOf kindU
  rcases needSt h.bx h0.bz p with ⟨k, k1, rfl, k3, k4⟩ | ⟨k3, k4⟩
  · dsimp only
    rw [k3, k4, if_pos rfl]
    refine Or.inr ⟨x.1 22 k, x, _, ?_, rfl, r00 z, ?_, IVi h0⟩
    · show (some (.inr (some (.int (entI x 22 20 (nI k))), x)) : Option RT) = _
      rw [entI_nI (by have := h.bx.2.1; omega) (by decide)]
    · exact congrArg cvI (h0.kin k k1).1
  · dsimp only
    rw [k3, k4, if_neg (by decide)]
    exact Or.inl ⟨_, x, _, rfl, rfl, z00 _ _, rfl, IVi (h0.z0 hR 1)⟩
theorem ag_first {R : XS → XS → Prop} (hR : Stab R) (p : Int32) : AgT (IV R) code1 cvI (fun E => E = "java/lang/IndexOutOfBoundsException") (f_X8_firstClaimOf p) (fun z => some (fstU 13 p (r0 z))) := by
  rintro x z ⟨F, S, l, r, m, h⟩
  have h0 := h.r0 hR
  unfold f_X8_firstClaimOf fstU
  have hS := h.bx.2.1
  rcases needSt h.bx h0.bz p with ⟨k, k1, rfl, k3, k4⟩ | ⟨k3, k4⟩
  · dsimp only
    rw [k3, k4, if_pos rfl, nI_clamp (by omega)]
    refine Or.inr ⟨x.1 23 k, x, _, ?_, rfl, r00 z, ?_, IVi h0⟩
    · show (some (.inr (some (.int (entI x 23 20 (nI k))), x)) : Option RT) = _
      rw [entI_nI (by omega) (by decide)]
    · exact congrArg cvI (h0.kin k k1).2.1
  · dsimp only
    rw [k3, k4, if_neg (by decide)]
    exact Or.inl ⟨_, x, _, rfl, rfl, z00 _ _, rfl, IVi (h0.z0 hR 1)⟩
theorem ag_second {R : XS → XS → Prop} (hR : Stab R) (p : Int32) : AgT (IV R) code1 cvI (fun E => E = "java/lang/IndexOutOfBoundsException") (f_X8_secondClaimOf p) (fun z => some (fstU 14 p (r0 z))) := by
  rintro x z ⟨F, S, l, r, m, h⟩
  have h0 := h.r0 hR
  unfold f_X8_secondClaimOf fstU
  have hS := h.bx.2.1
  rcases needSt h.bx h0.bz p with ⟨k, k1, rfl, k3, k4⟩ | ⟨k3, k4⟩
  · dsimp only
    rw [k3, k4, if_pos rfl, nI_clamp (by omega)]
    refine Or.inr ⟨x.1 24 k, x, _, ?_, rfl, r00 z, ?_, IVi h0⟩
    · show (some (.inr (some (.int (entI x 24 20 (nI k))), x)) : Option RT) = _
      rw [entI_nI (by omega) (by decide)]
    · exact congrArg cvI (h0.kin k k1).2.2
  · dsimp only
    rw [k3, k4, if_neg (by decide)]
    exact Or.inl ⟨_, x, _, rfl, rfl, z00 _ _, rfl, IVi (h0.z0 hR 1)⟩
theorem ag_stands {R : XS → XS → Prop} (hR : Stab R) (p : Int32) : AgT (IV R) code1 cvB (fun E => E = "java/lang/IndexOutOfBoundsException") (f_X8_stands p) (mb (fun z => some (stdU p (r0 z)))) := by
  rintro x z ⟨F, S, l, r, m, h⟩
  have h0 := h.r0 hR
  unfold f_X8_stands mb stdU
  have hS := h.bx.2.1
  rcases needSt h.bx h0.bz p with ⟨k, k1, rfl, k3, k4⟩ | ⟨k3, k4⟩
  · dsimp only
    rw [k3, k4, if_pos rfl]
    refine Or.inr ⟨_, x, _, rfl, rfl, r00 z, ?_, IVi h0⟩
    show cvB (b2i (hasB (x.1 46 1) (nI k))) = cvB (b2i (mhasB ((r0 z).1 0 15) (nI k)))
    rw [h.xs, h0.zs, hasB_bit (by omega), mhasB_bit (by omega)]
  · dsimp only
    rw [k3, k4, if_neg (by decide)]
    exact Or.inl ⟨_, x, _, rfl, rfl, z00 _ _, rfl, IVi (h0.z0 hR 1)⟩
theorem row_same {x z : XS} {F S : Nat} {l r : Nat → Nat} {s : Int32} (hW : WebC x F S l r s) (hL : FolC z F S l r s) (hF : F ≤ 10) {c : Nat} (hc : c < 2 * F) : x.1 39 c = z.1 9 c :=
  bit_ext (fun j hj => (hW.2.2.1 c hc j hj).trans (hL.1 c (by omega) j hj).symm)
theorem reach_eq {x : XS} {s : Int32} {c : Nat} (hc : c < 20) : reachF x s (nI c) = (webLook s x).1 39 c := by
  unfold reachF
  rw [if_neg (nI_pos (by omega)), if_neg (nI_ge hc (by decide)), nI_clamp (by omega)]
theorem ag_what {R : XS → XS → Prop} (hR : Stab R) (p : Int32) : AgT (IV R) code1 cvI (fun E => E = "java/lang/IndexOutOfBoundsException") (f_X8_whatFollowsFrom p) (fun z => some (whaU p (r0 z))) := by
  rintro x z ⟨F, S, l, r, m, h⟩
  have h0 := h.r0 hR
  unfold f_X8_whatFollowsFrom whaU
  have hF := h.bx.1
  rcases needCl h.bx h0.bz p with ⟨k, k1, rfl, k3, k4⟩ | ⟨k3, k4⟩
  · dsimp only
    rw [k3, k4, if_pos rfl, nI_clamp (by omega)]
    obtain ⟨f1, f2⟩ := h0.fol1 hR
    obtain ⟨w1, w2⟩ := f1.webx hR
    refine Or.inr ⟨_, _, _, rfl, rfl, ?_, ?_, IVi w1⟩
    · rw [fol_0 (by decide) (by decide)]; exact r00 z
    · show cvI (bcI (reachF x (x.1 46 1) (nI k))) = cvI (bcI _)
      rw [reach_eq (by omega), row_same w2 f2 hF k1]
  · dsimp only
    rw [k3, k4, if_neg (by decide)]
    exact Or.inl ⟨_, x, _, rfl, rfl, z00 _ _, rfl, IVi (h0.z0 hR 1)⟩
theorem ag_follows {R : XS → XS → Prop} (hR : Stab R) (p q : Int32) : AgT (IV R) code1 cvB (fun E => E = "java/lang/IndexOutOfBoundsException") (f_X8_follows p q) (mb (fun z => some (folU p q (r0 z)))) := by
  rintro x z ⟨F, S, l, r, m, h⟩
  have h0 := h.r0 hR
  unfold f_X8_follows mb folU
  have hF := h.bx.1
  rcases needCl h.bx h0.bz p with ⟨k, k1, rfl, k3, k4⟩ | ⟨k3, k4⟩
  · dsimp only
    rw [k3, k4, if_pos rfl]
    show (∃ E x1 w, ob (f_X8_needClaim q x) _ = _ ∧ _) ∨ ∃ v x1 w, ob (f_X8_needClaim q x) _ = _ ∧ _
    rcases needCl h.bx h0.bz q with ⟨d, d1, rfl, d3, d4⟩ | ⟨d3, d4⟩
    · rw [d3, d4, if_pos rfl, nI_clamp (by omega)]
      obtain ⟨f1, f2⟩ := h0.fol1 hR
      obtain ⟨w1, w2⟩ := f1.webx hR
      refine Or.inr ⟨_, _, _, rfl, rfl, ?_, ?_, IVi w1⟩
      · show (mfol (r0 z)).1 0 0 = 0
        rw [fol_0 (by decide) (by decide)]; exact r00 z
      · show cvB (b2i (hasB (reachF x (x.1 46 1) (nI d)) (nI k))) = cvB (b2i _)
        rw [reach_eq (by omega), row_same w2 f2 hF d1, hasB_bit (by omega), mhasB_bit (by omega)]
    · rw [d3, d4, if_neg (by decide)]
      exact Or.inl ⟨_, x, _, rfl, rfl, z00 _ _, rfl, IVi (h0.z0 hR 1)⟩
  · dsimp only
    rw [k3, k4, if_neg (by decide)]
    exact Or.inl ⟨_, x, _, rfl, rfl, z00 _ _, rfl, IVi (h0.z0 hR 1)⟩
theorem ag_partOf {R : XS → XS → Prop} (hR : Stab R) (p : Int32) : AgT (IV R) code1 cvI (fun E => E = "java/lang/IndexOutOfBoundsException") (f_X8_partOf p) (fun z => some (paoU p (r0 z))) := by
  rintro x z ⟨F, S, l, r, m, h⟩
  have h0 := h.r0 hR
  unfold f_X8_partOf paoU
  have hF := h.bx.1
  rcases needCl h.bx h0.bz p with ⟨k, k1, rfl, k3, k4⟩ | ⟨k3, k4⟩
  · dsimp only
    rw [k3, k4, if_pos rfl]
    obtain ⟨f1, f2⟩ := h0.fol1 hR
    obtain ⟨w1, w2⟩ := f1.webx hR
    refine Or.inr ⟨_, _, _, rfl, rfl, ?_, ?_, IVi w1⟩
    · rw [fol_0 (by decide) (by decide)]; exact r00 z
    · show cvI (lowI (togetherF (webLook (x.1 46 1) x) (nI k))) = cvI _
      rw [part_no (by omega) w2.2.2.1 w2.1 k1 (RR_refl k), smF_eq f2.1 (by omega) (RR_refl k)]
  · dsimp only
    rw [k3, k4, if_neg (by decide)]
    exact Or.inl ⟨_, x, _, rfl, rfl, z00 _ _, rfl, IVi (h0.z0 hR 1)⟩
theorem bcI_bit (v : Int32) : bcI v = nI (fb_ct (bit v) 32) := bcI_ct v
theorem part_size {x : XS} {n : Nat} {A : Mat} (hn : n ≤ 20) (h : Rows 39 n x A) (h3 : x.1 37 3 = nI n) {c : Nat} (hc : c < n) : bcI (togetherF x (nI c)) = nI (fb_ct (fun j => A j c && A c j) n) := by
  have hb := together_bit hn h h3 hc
  have e : fb_ct (bit (togetherF x (nI c))) (n + (32 - n)) = fb_ct (fun j => A j c && A c j) n := by
    rw [fb_ct_split]
    have e1 : fb_ct (fun k => bit (togetherF x (nI c)) (n + k)) (32 - n) = 0 := fb_ct_zero.mpr (fun j hj => by rw [hb _ (by omega), decide_eq_false (by omega), Bool.false_and])
    rw [e1, Nat.add_zero]
    exact fb_ct_cong (fun j hj => by rw [hb _ (by omega), decide_eq_true hj, Bool.true_and])
  rw [bcI_bit, ← e, show n + (32 - n) = 32 by omega]
theorem sop_eq {z : XS} {F S : Nat} {l r : Nat → Nat} {s : Int32} (hB : BkZ z F S l r) (hL : FolC (mfol z) F S l r s) {c : Nat} (hc : c < 2 * F) : sopI z (nI c) = nI (fb_ct (fun j => RR F S l r s j c && RR F S l r s c j) (2 * F)) := by
  have hF := hB.1
  unfold sopI
  rw [fol_1 (by decide) (by decide), hB.2.2.1, two_nI, nI_clamp (by omega)]
  refine itP_rel (f := sopF (mfol z) (nI c)) (P := fun n v => v = nI (fb_ct (fun j => RR F S l r s j c && RR F S l r s c j) n)) rfl (fun n hn v hv => ?_)
  unfold sopF
  rw [hv, are_eq hL.1 (by omega) (by omega), fb_ct_succ]
  cases (RR F S l r s n c && RR F S l r s c n)
  · exact Int32.add_zero _
  · exact nI_addN _ 1
theorem ag_partSize {R : XS → XS → Prop} (hR : Stab R) (p : Int32) : AgT (IV R) code1 cvI (fun E => E = "java/lang/IndexOutOfBoundsException") (f_X8_partSize p) (fun z => some (pasU p (r0 z))) := by
  rintro x z ⟨F, S, l, r, m, h⟩
  have h0 := h.r0 hR
  unfold f_X8_partSize pasU
  have hF := h.bx.1
  rcases needCl h.bx h0.bz p with ⟨k, k1, rfl, k3, k4⟩ | ⟨k3, k4⟩
  · dsimp only
    rw [k3, k4, if_pos rfl]
    obtain ⟨f1, f2⟩ := h0.fol1 hR
    obtain ⟨w1, w2⟩ := f1.webx hR
    refine Or.inr ⟨_, _, _, rfl, rfl, ?_, ?_, IVi w1⟩
    · rw [fol_0 (by decide) (by decide)]; exact r00 z
    · show cvI (bcI (togetherF (webLook (x.1 46 1) x) (nI k))) = cvI _
      rw [part_size (by omega) w2.2.2.1 w2.1 k1, sop_eq h0.bz f2 k1]
  · dsimp only
    rw [k3, k4, if_neg (by decide)]
    exact Or.inl ⟨_, x, _, rfl, rfl, z00 _ _, rfl, IVi (h0.z0 hR 1)⟩
theorem ag_parts {R : XS → XS → Prop} (hR : Stab R) : AgN (IV R) f_X8_parts (fun z => some ((mfol z).1 0 23, r0 (mfol z))) := by
  rintro x z ⟨F, S, l, r, m, h⟩
  obtain ⟨f1, f2⟩ := h.fol1 hR
  obtain ⟨w1, w2⟩ := f1.webx hR
  refine ⟨nI (pN F (RR F S l r (nI m))), webLook (x.1 46 1) x, r0 (mfol z), ?_, ?_, IVi (w1.r0 hR)⟩
  · unfold f_X8_parts; rw [w2.2.2.2]
  · dsimp only; rw [f2.2]
