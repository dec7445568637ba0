theorem ag_digest {R : XS → XS → Prop} (hR : Stab R) (hE : ∀ x z, R x z → x.1 1 1 = z.1 0 2) (hO : ∀ x z, R x z → x.1 21 7 = z.1 11 5) : AgN (IV R) f_X8_digest f_X10_digest := by
  rintro x z ⟨F, S, l, r, m, h⟩
  have h0 := h.r0 hR
  have hF := h.bx.1
  rw [dg_eq]
  have tn : (0 : Int32).toNatClampNeg = 0 ∧ (1 : Int32).toNatClampNeg = 1 ∧ (2 : Int32).toNatClampNeg = 2 ∧ (3 : Int32).toNatClampNeg = 3 ∧ (4 : Int32).toNatClampNeg = 4 ∧ (5 : Int32).toNatClampNeg = 5 ∧ (6 : Int32).toNatClampNeg = 6 ∧ (7 : Int32).toNatClampNeg = 7 ∧ (8 : Int32).toNatClampNeg = 8 := by decide
  obtain ⟨t0, t1, t2, t3, t4, t5, t6, t7, t8⟩ := tn
  have i9 : ∀ j, j < 9 → inB (nI j) 9 = true := fun j hj => inB_nI hj (by decide)
  rw [show inB 0 9 = true from i9 0 (by decide), show inB 1 9 = true from i9 1 (by decide), show inB 2 9 = true from i9 2 (by decide), show inB 3 9 = true from i9 3 (by decide), show inB 4 9 = true from i9 4 (by decide), show inB 5 9 = true from i9 5 (by decide), show inB 6 9 = true from i9 6 (by decide), show inB 7 9 = true from i9 7 (by decide), show inB 8 9 = true from i9 8 (by decide)]
  simp only [og_tr]
  have q0 : ∀ q k, q ≠ 21 → (dD0 z).1 q k = (r0 z).1 q k := fun q k h => if_neg h
  have q1 : ∀ q k, q ≠ 21 → (dD1 z).1 q k = (r0 z).1 q k := fun q k h => (rdI_ne h).trans (q0 q k h)
  have q2 : ∀ q k, q ≠ 21 → (dD2 z).1 q k = (r0 z).1 q k := fun q k h => (rdI_ne h).trans (q1 q k h)
  have q3 : ∀ q k, q ≠ 21 → (dD3 z).1 q k = (r0 z).1 q k := fun q k h => (rdI_ne h).trans (q2 q k h)
  have q4 : ∀ q k, q ≠ 21 → (dD4 z).1 q k = (r0 z).1 q k := fun q k h => (rdI_ne h).trans (q3 q k h)
  have q5 : ∀ q k, q ≠ 21 → (dD5 z).1 q k = (r0 z).1 q k := fun q k h => (rdI_ne h).trans (q4 q k h)
  have q6 : ∀ q k, q ≠ 21 → (dD6 z).1 q k = (r0 z).1 q k := fun q k h => (rdI_ne h).trans (q5 q k h)
  have q7 : ∀ q k, q ≠ 21 → (dD7 z).1 q k = (r0 z).1 q k := fun q k h => (rdI_ne h).trans (q6 q k h)
  have b7 := h0.c21 hR q7
  obtain ⟨f1, f2⟩ := b7.fol1 hR
  obtain ⟨w1, w2⟩ := f1.webx hR
  have b8 := w1.c21 hR (w := dD8 z) (fun q k h => (rdI_ne h).trans (mix_1 h))
  have b8m := b8.mok
  obtain ⟨l1, l2⟩ := b8.lookz hR
  have l3 : (mlook ((dD8 z).1 0 15) (dD8 z)).1 0 17 = nI m := by
    have := (look_ok b8.bz b8.look b8.ne).2
    rw [b8.zs]; exact this
  have b9 := (l1.landx hR).c21 hR (w := dD9 z) (fun q k h => (rdI_ne h).trans (mix_1 h))
  have b917 : (dD9 z).1 0 17 = nI m := (rdI_ne (by decide)).trans ((mix_1 (by decide)).trans l3)
  rw [cdec_t b7.mok, cdec_t b8m]
  simp only [og_tr]
  have r9 := dg_hd (y := dD9 z) 30 0 947 (by decide) (by decide)
  rw [show f_X10_digest_L107 30 947 9 0 (dD9 z) = f_X10_digest_L140 30 (dgs ((dD9 z).1 21) 9 947) 0 (dD9 z) from r9]
  have s8 : (dD9 z).1 21 8 = countF (webLook (x.1 46 1) x) ((webLook (x.1 46 1) x).1 46 1) := by rw [w1.cnt]; unfold dD9; rw [t8, rdI_eq]; exact l2.1
  have s7 : (dD9 z).1 21 7 = (webLook (x.1 46 1) x).1 37 4 := by rw [w2.2.2.2]; unfold dD9; rw [t8, rdI_nk (by decide), mix_n]; unfold dD8; rw [t7, rdI_eq]; exact f2.2
  have s79 : ∀ k, k < 7 → (dD9 z).1 21 k = (dD7 z).1 21 k := fun k hk => by
    unfold dD9; rw [t8, rdI_nk (by omega), mix_n]; unfold dD8; rw [t7, rdI_nk (by omega), mix_n]
  have s6 : (dD9 z).1 21 6 = bcI (x.1 46 1) := by rw [h.xs, s79 6 (by decide)]; unfold dD7; rw [t6, rdI_eq, q6 0 15 (by decide), h0.zs]
  have s5 : (dD9 z).1 21 5 = x.1 1 1 := by rw [s79 5 (by decide)]; unfold dD7; rw [t6, rdI_nk (by decide)]; unfold dD6; rw [t5, rdI_eq, q5 0 2 (by decide), hE _ _ h0.rest]
  have s4 : (dD9 z).1 21 4 = x.1 46 2 := by rw [s79 4 (by decide)]; unfold dD7; rw [t6, rdI_nk (by decide)]; unfold dD6; rw [t5, rdI_nk (by decide)]; unfold dD5; rw [t4, rdI_eq, q4 0 14 (by decide), h0.co]
  have s3 : (dD9 z).1 21 3 = x.1 46 0 := by rw [s79 3 (by decide)]; unfold dD7; rw [t6, rdI_nk (by decide)]; unfold dD6; rw [t5, rdI_nk (by decide)]; unfold dD5; rw [t4, rdI_nk (by decide)]; unfold dD4; rw [t3, rdI_eq, q3 0 13 (by decide), h0.dy]
  have s2 : (dD9 z).1 21 2 = x.1 21 7 := by rw [s79 2 (by decide)]; unfold dD7; rw [t6, rdI_nk (by decide)]; unfold dD6; rw [t5, rdI_nk (by decide)]; unfold dD5; rw [t4, rdI_nk (by decide)]; unfold dD4; rw [t3, rdI_nk (by decide)]; unfold dD3; rw [t2, rdI_eq, q2 11 5 (by decide), hO _ _ h0.rest]
  have s1 : (dD9 z).1 21 1 = x.1 21 1 := by rw [h.bx.2.2.2.1, s79 1 (by decide)]; unfold dD7; rw [t6, rdI_nk (by decide)]; unfold dD6; rw [t5, rdI_nk (by decide)]; unfold dD5; rw [t4, rdI_nk (by decide)]; unfold dD4; rw [t3, rdI_nk (by decide)]; unfold dD3; rw [t2, rdI_nk (by decide)]; unfold dD2; rw [t1, rdI_eq, q1 11 1 (by decide), h0.bz.2.2.2.1]
  have s0 : (dD9 z).1 21 0 = x.1 21 0 := by rw [h.bx.2.2.1, s79 0 (by decide)]; unfold dD7; rw [t6, rdI_nk (by decide)]; unfold dD6; rw [t5, rdI_nk (by decide)]; unfold dD5; rw [t4, rdI_nk (by decide)]; unfold dD4; rw [t3, rdI_nk (by decide)]; unfold dD3; rw [t2, rdI_nk (by decide)]; unfold dD2; rw [t1, rdI_nk (by decide)]; unfold dD1; rw [t0, rdI_eq, q0 11 0 (by decide), h0.bz.2.2.1]
  have hacc : dgs ((dD9 z).1 21) 9 947 = (((((((((947 * 31 + (x.1 21 0).toInt64) * 31 + (x.1 21 1).toInt64) * 31 + (x.1 21 7).toInt64) * 31 + (x.1 46 0).toInt64) * 31 + (x.1 46 2).toInt64) * 31 + (x.1 1 1).toInt64) * 31 + (bcI (x.1 46 1)).toInt64) * 31 + ((webLook (x.1 46 1) x).1 37 4).toInt64) * 31 + (countF (webLook (x.1 46 1) x) ((webLook (x.1 46 1) x).1 46 1)).toInt64) := by
    rw [← s0, ← s1, ← s2, ← s3, ← s4, ← s5, ← s6, ← s7, ← s8]; rfl
  unfold f_X8_digest
  rw [← hacc]
  generalize dgs ((dD9 z).1 21) 9 947 = A
  generalize landLook ((webLook (x.1 46 1) x).1 46 1) (webLook (x.1 46 1) x) = X at b9
  generalize dD9 z = Y at b9 b917
  obtain ⟨a1, p1, p2⟩ := dg_st b9 30 0 A (by have := h.bx.2.1; omega) (Nat.zero_le _)
  obtain ⟨a2, x', y', p3, p4, b10, p5⟩ := dg_cl hR 30 0 a1 X Y b9 b917 (by omega) (Nat.zero_le _)
  obtain ⟨a3, x'', p6, p7, b11⟩ := dg_end hR b10 p5 a2
  refine ⟨a3, x'', y', ?_, ?_, IVi b11⟩
  · rw [show f_X8_digestStatements A X = some (a1, X) from p1, ob_some1]
    dsimp only
    rw [show f_X8_digestClaims a1 X = some (a2, x') from p3, ob_some1]
    dsimp only
    rw [p6, ob_some1]
  · exact p2.trans (p4.trans p7)
