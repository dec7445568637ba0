theorem ushL {v : Int64} {k : Int32} {m : Nat} (hk : ((k.toInt64.toUInt64 &&& Int64.toUInt64 63).toNat % 64) = m) : (ushrL v k).toUInt64.toNat = v.toUInt64.toNat / 2 ^ m := by
  unfold ushrL
  rw [UInt64.toUInt64_toInt64, UInt64.toNat_shiftRight, hk, Nat.shiftRight_eq_div_pow]
theorem ushI {v : Int32} {k : Int32} {m : Nat} (hk : ((k.toUInt32 &&& Int32.toUInt32 31).toNat % 32) = m) : (ushrI v k).toUInt32.toNat = v.toUInt32.toNat / 2 ^ m := by
  unfold ushrI
  rw [UInt32.toUInt32_toInt32, UInt32.toNat_shiftRight, hk, Nat.shiftRight_eq_div_pow]
theorem nI_bv (s : Nat) (hs : s < 2 ^ 32) : (nI s).toBitVec.toNat = s := by
  show (BitVec.ofNat 32 s).toNat = s
  rw [BitVec.toNat_ofNat, Nat.mod_eq_of_lt hs]
theorem addL {a b : Int64} (h : a.toUInt64.toNat + b.toUInt64.toNat < 2 ^ 64) : (a + b).toUInt64.toNat = a.toUInt64.toNat + b.toUInt64.toNat := by
  rw [Int64.toUInt64_add, UInt64.toNat_add, Nat.mod_eq_of_lt h]
theorem addI {a b : Int32} (h : a.toUInt32.toNat + b.toUInt32.toNat < 2 ^ 32) : (a + b).toUInt32.toNat = a.toUInt32.toNat + b.toUInt32.toNat := by
  rw [Int32.toUInt32_add, UInt32.toNat_add, Nat.mod_eq_of_lt h]
theorem subL {a b : Int64} (h : b.toUInt64.toNat ≤ a.toUInt64.toNat) : (a - b).toUInt64.toNat = a.toUInt64.toNat - b.toUInt64.toNat := by
  rw [Int64.toUInt64_sub, UInt64.toNat_sub_of_le _ _ (UInt64.le_iff_toNat_le.mpr h)]
theorem subI {a b : Int32} (h : b.toUInt32.toNat ≤ a.toUInt32.toNat) : (a - b).toUInt32.toNat = a.toUInt32.toNat - b.toUInt32.toNat := by
  rw [Int32.toUInt32_sub, UInt32.toNat_sub_of_le _ _ (UInt32.le_iff_toNat_le.mpr h)]
theorem andL {a b : Int64} : (a &&& b).toUInt64.toNat = a.toUInt64.toNat &&& b.toUInt64.toNat := by
  rw [Int64.toUInt64_and, UInt64.toNat_and]
theorem andI {a b : Int32} : (a &&& b).toUInt32.toNat = a.toUInt32.toNat &&& b.toUInt32.toNat := by
  rw [Int32.toUInt32_and, UInt32.toNat_and]
theorem dv {a b m : Nat} (h : a < m) : (a + m * b) / m = b := by
  rw [Nat.add_mul_div_left _ _ (Nat.lt_of_le_of_lt (Nat.zero_le _) h), Nat.div_eq_of_lt h, Nat.zero_add]
theorem sum8 {p0 p1 p2 p3 p4 p5 p6 p7 : Nat} (h0 : p0 ≤ 8) (h1 : p1 ≤ 8) (h2 : p2 ≤ 8) (h3 : p3 ≤ 8) (h4 : p4 ≤ 8) (h5 : p5 ≤ 8) (h6 : p6 ≤ 8) (h7 : p7 ≤ 8) {x3 x4 x5 x6 : Nat} (e3 : x3 = p0 + 256 * (p1 + 256 * (p2 + 256 * (p3 + 256 * (p4 + 256 * (p5 + 256 * (p6 + 256 * (p7 + 256 * 0)))))))) (e4 : x4 = x3 + x3 / 256) (e5 : x5 = x4 + x4 / 65536) (e6 : x6 = x5 + x5 / 4294967296) : x3 + x3 / 256 < 18446744073709551616 ∧ x4 + x4 / 65536 < 18446744073709551616 ∧ x5 + x5 / 4294967296 < 18446744073709551616 ∧ x6 % 128 = p0 + p1 + p2 + p3 + p4 + p5 + p6 + p7 := by
  obtain ⟨t6, q6⟩ : ∃ t, t = p6 + 256 * p7 := ⟨_, rfl⟩
  obtain ⟨t5, q5⟩ : ∃ t, t = p5 + 256 * t6 := ⟨_, rfl⟩
  obtain ⟨t4, q4⟩ : ∃ t, t = p4 + 256 * t5 := ⟨_, rfl⟩
  obtain ⟨t3, q3⟩ : ∃ t, t = p3 + 256 * t4 := ⟨_, rfl⟩
  obtain ⟨t2, q2⟩ : ∃ t, t = p2 + 256 * t3 := ⟨_, rfl⟩
  obtain ⟨t1, q1⟩ : ∃ t, t = p1 + 256 * t2 := ⟨_, rfl⟩
  have f3 : x3 = p0 + 256 * t1 := by omega
  have d3 : x3 / 256 = t1 := by rw [f3]; exact dv (by omega)
  rw [d3] at e4
  have d4 : x4 / 65536 = t2 + t3 := by
    rw [show x4 = ((p0 + p1) + 256 * (p1 + p2)) + 65536 * (t2 + t3) by omega]; exact dv (by omega)
  rw [d4] at e5
  have d5 : x5 / 4294967296 = t4 + t5 + t6 + p7 := by
    rw [show x5 = ((p0 + p1 + p2 + p3) + 256 * (p1 + p2 + p3 + p4) + 65536 * (p2 + p3 + p4 + p5) + 16777216 * (p3 + p4 + p5 + p6)) + 4294967296 * (t4 + t5 + t6 + p7) by omega]; exact dv (by omega)
  rw [d5] at e6
  rw [d3, d4, d5]
  refine ⟨by omega, by omega, by omega, ?_⟩
  omega
theorem sum4 {p0 p1 p2 p3 : Nat} (h0 : p0 ≤ 8) (h1 : p1 ≤ 8) (h2 : p2 ≤ 8) (h3 : p3 ≤ 8) {x3 x4 x5 : Nat} (e3 : x3 = p0 + 256 * (p1 + 256 * (p2 + 256 * (p3 + 256 * 0)))) (e4 : x4 = x3 + x3 / 256) (e5 : x5 = x4 + x4 / 65536) : x3 + x3 / 256 < 4294967296 ∧ x4 + x4 / 65536 < 4294967296 ∧ x5 % 64 = p0 + p1 + p2 + p3 := by
  obtain ⟨t2, q2⟩ : ∃ t, t = p2 + 256 * p3 := ⟨_, rfl⟩
  obtain ⟨t1, q1⟩ : ∃ t, t = p1 + 256 * t2 := ⟨_, rfl⟩
  have f3 : x3 = p0 + 256 * t1 := by omega
  have d3 : x3 / 256 = t1 := by rw [f3]; exact dv (by omega)
  rw [d3] at e4
  have d4 : x4 / 65536 = t2 + p3 := by
    rw [show x4 = ((p0 + p1) + 256 * (p1 + p2)) + 65536 * (t2 + p3) by omega]; exact dv (by omega)
  rw [d4] at e5
  rw [d3, d4]
  exact ⟨by omega, by omega, by omega⟩
theorem bcL_ct (v : Int64) : bcL v = nI (fb_ct v.toUInt64.toNat.testBit 64) := by
  have hn : v.toUInt64.toNat < 256 ^ 8 := v.toUInt64.toNat_lt
  obtain ⟨t1, t2, t3, t4⟩ := three 8 _ hn
  have hs := bytes_ct 8 v.toUInt64.toNat
  have h8 := pc8 (k := 8) (n := v.toUInt64.toNat) rfl
  generalize hl : (bytesN 8 v.toUInt64.toNat).map (fun b => fb_ct b.testBit 8) = l at t2 hs h8
  obtain ⟨p0, p1, p2, p3, p4, p5, p6, p7, rfl⟩ : ∃ p0 p1 p2 p3 p4 p5 p6 p7, l = [p0, p1, p2, p3, p4, p5, p6, p7] := by
    rw [← hl]; exact ⟨_, _, _, _, _, _, _, _, rfl⟩
  clear hl
  have a1 : (bl1 v).toUInt64.toNat = v.toUInt64.toNat - ((v.toUInt64.toNat / 2) &&& msk 85 8) := by
    unfold bl1
    have e : (ushrL v 1 &&& 6148914691236517205).toUInt64.toNat = (v.toUInt64.toNat / 2) &&& msk 85 8 := by
      rw [andL, ushL (m := 1) (by decide)]; rfl
    rw [subL (by rw [e]; exact t1), e]
  have hb : ∀ w : Int64, (ushrL w 2).toUInt64.toNat = w.toUInt64.toNat / 4 := fun w => ushL (m := 2) (by decide)
  generalize hv1 : bl1 v = v1 at *
  have lm : ∀ n, (n &&& msk 51 8) ≤ 3689348814741910323 := fun n => Nat.and_le_right
  have a2 : (bl2 v1).toUInt64.toNat = (v1.toUInt64.toNat &&& msk 51 8) + ((v1.toUInt64.toNat / 4) &&& msk 51 8) := by
    unfold bl2
    have e1 : (v1 &&& 3689348814741910323).toUInt64.toNat = v1.toUInt64.toNat &&& msk 51 8 := by rw [andL]; rfl
    have e2 : (ushrL v1 2 &&& 3689348814741910323).toUInt64.toNat = (v1.toUInt64.toNat / 4) &&& msk 51 8 := by rw [andL, hb]; rfl
    have b1 := lm v1.toUInt64.toNat
    have b2 := lm (v1.toUInt64.toNat / 4)
    rw [addL (by rw [e1, e2]; omega), e1, e2]
  have bd2 : (bl2 v1).toUInt64.toNat ≤ 2 * 3689348814741910323 := by
    have b1 := lm v1.toUInt64.toNat
    have b2 := lm (v1.toUInt64.toNat / 4)
    omega
  generalize hv2 : bl2 v1 = v2 at *
  have a3 : (bl3 v2).toUInt64.toNat = (v2.toUInt64.toNat + v2.toUInt64.toNat / 16) &&& msk 15 8 := by
    unfold bl3
    have e1 : (ushrL v2 4).toUInt64.toNat = v2.toUInt64.toNat / 16 := ushL (m := 4) (by decide)
    rw [andL, addL (by rw [e1]; omega), e1]; rfl
  rw [← a1, ← a2] at t2
  rw [← a3] at t2
  generalize hv3 : bl3 v2 = v3 at *
  obtain ⟨c1, c2, c3, c4⟩ := sum8 (h8 p0 (by simp)) (h8 p1 (by simp)) (h8 p2 (by simp)) (h8 p3 (by simp)) (h8 p4 (by simp)) (h8 p5 (by simp)) (h8 p6 (by simp)) (h8 p7 (by simp)) (x3 := v3.toUInt64.toNat) t2 rfl rfl rfl
  have a4 : (bl4 v3).toUInt64.toNat = v3.toUInt64.toNat + v3.toUInt64.toNat / 256 := by
    unfold bl4
    have e1 : (ushrL v3 8).toUInt64.toNat = v3.toUInt64.toNat / 256 := ushL (m := 8) (by decide)
    rw [addL (by rw [e1]; exact c1), e1]
  generalize hv4 : bl4 v3 = v4 at *
  rw [← a4] at c2 c3 c4
  have a5 : (bl5 v4).toUInt64.toNat = v4.toUInt64.toNat + v4.toUInt64.toNat / 65536 := by
    unfold bl5
    have e1 : (ushrL v4 16).toUInt64.toNat = v4.toUInt64.toNat / 65536 := ushL (m := 16) (by decide)
    rw [addL (by rw [e1]; exact c2), e1]
  generalize hv5 : bl5 v4 = v5 at *
  rw [← a5] at c3 c4
  have a6 : (bl6 v5).toUInt64.toNat = v5.toUInt64.toNat + v5.toUInt64.toNat / 4294967296 := by
    unfold bl6
    have e1 : (ushrL v5 32).toUInt64.toNat = v5.toUInt64.toNat / 4294967296 := ushL (m := 32) (by decide)
    rw [addL (by rw [e1]; exact c3), e1]
  unfold bcL
  rw [hv1, hv2, hv3, hv4, hv5]
  rw [← a6] at c4
  generalize bl6 v5 = v6 at *
  have hs' : p0 + p1 + p2 + p3 + p4 + p5 + p6 + p7 = fb_ct v.toUInt64.toNat.testBit 64 := by
    rw [← hs]; show _ = p0 + (p1 + (p2 + (p3 + (p4 + (p5 + (p6 + (p7 + 0))))))); omega
  rw [hs'] at c4
  refine Int32.toBitVec.inj (BitVec.eq_of_toNat_eq ?_)
  have hlt := fb_ct_le v.toUInt64.toNat.testBit 64
  rw [nI_bv _ (by omega), ← c4, Int32.toBitVec_and, BitVec.toNat_and, Int64.toBitVec_toInt32, BitVec.signExtend_eq_setWidth_of_le _ (by decide), BitVec.toNat_setWidth, show (127 : Int32).toBitVec.toNat = 2 ^ 7 - 1 from rfl, Nat.and_two_pow_sub_one_eq_mod]
  show v6.toUInt64.toNat % 2 ^ 32 % 2 ^ 7 = v6.toUInt64.toNat % 128
  omega
theorem bcI_ct (v : Int32) : bcI v = nI (fb_ct v.toUInt32.toNat.testBit 32) := by
  have hn : v.toUInt32.toNat < 256 ^ 4 := v.toUInt32.toNat_lt
  obtain ⟨t1, t2, t3, t4⟩ := three 4 _ hn
  have hs := bytes_ct 4 v.toUInt32.toNat
  have h8 := pc8 (k := 4) (n := v.toUInt32.toNat) rfl
  generalize hl : (bytesN 4 v.toUInt32.toNat).map (fun b => fb_ct b.testBit 8) = l at t2 hs h8
  obtain ⟨p0, p1, p2, p3, rfl⟩ : ∃ p0 p1 p2 p3, l = [p0, p1, p2, p3] := by
    rw [← hl]; exact ⟨_, _, _, _, rfl⟩
  clear hl
  have a1 : (bc1 v).toUInt32.toNat = v.toUInt32.toNat - ((v.toUInt32.toNat / 2) &&& msk 85 4) := by
    unfold bc1
    have e : (ushrI v 1 &&& 1431655765).toUInt32.toNat = (v.toUInt32.toNat / 2) &&& msk 85 4 := by
      rw [andI, ushI (m := 1) (by decide)]; rfl
    rw [subI (by rw [e]; exact t1), e]
  have hb : ∀ w : Int32, (ushrI w 2).toUInt32.toNat = w.toUInt32.toNat / 4 := fun w => ushI (m := 2) (by decide)
  generalize hv1 : bc1 v = v1 at *
  have lm : ∀ n, (n &&& msk 51 4) ≤ 858993459 := fun n => Nat.and_le_right
  have a2 : (bc2 v1).toUInt32.toNat = (v1.toUInt32.toNat &&& msk 51 4) + ((v1.toUInt32.toNat / 4) &&& msk 51 4) := by
    unfold bc2
    have e1 : (v1 &&& 858993459).toUInt32.toNat = v1.toUInt32.toNat &&& msk 51 4 := by rw [andI]; rfl
    have e2 : (ushrI v1 2 &&& 858993459).toUInt32.toNat = (v1.toUInt32.toNat / 4) &&& msk 51 4 := by rw [andI, hb]; rfl
    have b1 := lm v1.toUInt32.toNat
    have b2 := lm (v1.toUInt32.toNat / 4)
    rw [addI (by rw [e1, e2]; omega), e1, e2]
  have bd2 : (bc2 v1).toUInt32.toNat ≤ 2 * 858993459 := by
    have b1 := lm v1.toUInt32.toNat
    have b2 := lm (v1.toUInt32.toNat / 4)
    omega
  generalize hv2 : bc2 v1 = v2 at *
  have a3 : (bc3 v2).toUInt32.toNat = (v2.toUInt32.toNat + v2.toUInt32.toNat / 16) &&& msk 15 4 := by
    unfold bc3
    have e1 : (ushrI v2 4).toUInt32.toNat = v2.toUInt32.toNat / 16 := ushI (m := 4) (by decide)
    rw [andI, addI (by rw [e1]; omega), e1]; rfl
  rw [← a1, ← a2] at t2
  rw [← a3] at t2
  generalize hv3 : bc3 v2 = v3 at *
  obtain ⟨c1, c2, c4⟩ := sum4 (h8 p0 (by simp)) (h8 p1 (by simp)) (h8 p2 (by simp)) (h8 p3 (by simp)) (x3 := v3.toUInt32.toNat) t2 rfl rfl
  have a4 : (bc4 v3).toUInt32.toNat = v3.toUInt32.toNat + v3.toUInt32.toNat / 256 := by
    unfold bc4
    have e1 : (ushrI v3 8).toUInt32.toNat = v3.toUInt32.toNat / 256 := ushI (m := 8) (by decide)
    rw [addI (by rw [e1]; exact c1), e1]
  generalize hv4 : bc4 v3 = v4 at *
  rw [← a4] at c2 c4
  have a5 : (bc5 v4).toUInt32.toNat = v4.toUInt32.toNat + v4.toUInt32.toNat / 65536 := by
    unfold bc5
    have e1 : (ushrI v4 16).toUInt32.toNat = v4.toUInt32.toNat / 65536 := ushI (m := 16) (by decide)
    rw [addI (by rw [e1]; exact c2), e1]
  unfold bcI
  rw [hv1, hv2, hv3, hv4]
  rw [← a5] at c4
  generalize bc5 v4 = v6 at *
  have hs' : p0 + p1 + p2 + p3 = fb_ct v.toUInt32.toNat.testBit 32 := by
    rw [← hs]; show _ = p0 + (p1 + (p2 + (p3 + 0))); omega
  rw [hs'] at c4
  refine Int32.toBitVec.inj (BitVec.eq_of_toNat_eq ?_)
  have hlt := fb_ct_le v.toUInt32.toNat.testBit 32
  rw [nI_bv _ (by omega), ← c4, Int32.toBitVec_and, BitVec.toNat_and, show (63 : Int32).toBitVec.toNat = 2 ^ 6 - 1 from rfl, Nat.and_two_pow_sub_one_eq_mod]
  rfl
