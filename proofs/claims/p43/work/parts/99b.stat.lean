
/-! The start: statics and texts as the Statement gives them -/
def nw : List Cond := flatC (Jvm.Cond.and given_1 narrow_1)
def txP : List Nat := [770, 775, 785, 741, 747, 752, 763, 795, 805, 813, 824, 832, 840, 850, 886, 890, 912, 931, 953, 970, 988, 998, 1013, 1034, 724, 736, 858, 864, 875, 240, 694, 654, 484, 534, 561, 581, 632, 396, 426, 458, 513, 605]
def srP : List Nat := [1383, 1384, 1385, 1319, 1320, 1378, 1379, 1386, 1387, 1388, 1389, 1390, 1391, 1392, 1402, 1403, 1404, 1405, 1406, 1407, 1408, 1409, 1410, 1411, 1162, 1294, 1393, 1397, 1398, 62, 956, 949, 611, 671, 689, 698, 828, 441, 514, 556, 666, 717]
def txM (i : Nat) : Term := .string (txt i).1 (txt i).2.1
theorem tx_ex : ∀ i, i < 42 → nw[txP.getD i 0]? = some (.exactly (txM i) "java/lang/String") := by decide +kernel
theorem tx_co : ∀ i, i < 30 → nw[txP.getD i 0 + 1]? = some (.eq (.field (txM i) "java/lang/String" "coder" "B") (.int 0)) := by decide +kernel
theorem tx_ar : ∀ i, i < 30 → nw[txP.getD i 0 + 2]? = some (.arrayOf (.field (txM i) "java/lang/String" "value" "[B") .byte) := by decide +kernel
theorem tx_le : ∀ i, i < 30 → nw[txP.getD i 0 + 3]? = some (.eq (.length (.field (txM i) "java/lang/String" "value" "[B")) (.int (Int32.ofNat (txB i).length))) := by decide +kernel
theorem tx_el : ∀ i, i < 30 → ∀ j, j < (txB i).length → nw[txP.getD i 0 + 4 + j]? = some (.eq (.elem (.field (txM i) "java/lang/String" "value" "[B") (.int (Int32.ofNat j))) (.int ((txB i).getD j 0))) := by decide +kernel
theorem tx_ln : ∀ i, i < 30 → (txB i).length < 2 ^ 31 := by decide +kernel
theorem tx_sr : ∀ i, i < 42 → tables_1[srP.getD i 0]? = some (.stringRef (txt i).1 (txt i).2.1 (txt i).2.2) := by decide +kernel
def ridesD (j : Nat) : Int64 := ([-6148914691236517206, -3689348814741910324, -1085102592571150096, -71777214294589696, -281470681808896, -4294967296] : List Int64).getD j 0
theorem rd_el : ∀ j, j < 6 → nw[14 + j]? = some (.eq (.elem (.static RX3 "RIDES_IN_WORD" "[J") (.int (Int32.ofNat j))) (.long (ridesD j))) := by decide +kernel
theorem dg_1 : ∀ j, j < 100 → nw[23 + j]? = some (.eq (.elem (.static RJ6 "DigitOnes" "[B") (.int (Int32.ofNat j))) (.int (Int32.ofNat (48 + j % 10)))) := by decide +kernel
theorem dg_2 : ∀ j, j < 100 → nw[126 + j]? = some (.eq (.elem (.static RJ6 "DigitTens" "[B") (.int (Int32.ofNat j))) (.int (Int32.ofNat (48 + j / 10)))) := by decide +kernel
theorem w_aa : tables_1[892]? = some (Cond.arrayOver (.array .int)) := by decide +kernel
theorem ofN_u (v : Int32) : Int32.ofNat v.toUInt32.toNat = v := by
  apply Int32.toBitVec_inj.mp
  show BitVec.ofNat 32 v.toBitVec.toNat = v.toBitVec
  rw [BitVec.ofNat_toNat, BitVec.setWidth_eq]
theorem Sg_at {s : State} {b L : Nat} {xs : Nat → Int32} (hts : ∀ w ∈ lw_tbl, w.before #[Value.ref b] s = true) (hgv : (Jvm.Cond.and given_1 narrow_1).before #[Value.ref b] s = true) (hX : va_X b L xs s s.heap) : ∃ sa : Nat → Nat, sa 3 = b ∧ sa 4 = L ∧ ∀ g : Gx, g.2.2.2.1 = s.heap.size → g.2.2.2.2 = sa → AA g s → Sg g (fun q => g.2.2.2.1 ≤ q) s s.heap := by
  have hn := flat_of_before _ hgv
  have at' : ∀ {i : Nat} {w : Cond}, nw[i]? = some w → w.before #[Value.ref b] s = true := fun h => hn _ (List.mem_of_getElem? h)
  have tb : ∀ {i : Nat} {w : Cond}, tables_1[i]? = some w → w.before #[Value.ref b] s = true := fun h => hts _ (List.mem_append_right _ (List.mem_of_getElem? h))
  have hA : ∀ a : Nat, a < s.heap.size → ¬ (fun q : Nat => s.heap.size ≤ q) a := fun a h => Nat.not_le.mpr h
  have h0 : ∀ i : Nat, ∃ q : Nat × Nat, (i < 42 → (txM i).eval #[Value.ref b] s none [] s = some (.ref q.1)) ∧ (i < 30 → sC q.1 q.2 (txB i) (fun q : Nat => s.heap.size ≤ q) s s.heap) := by
    intro i
    by_cases hi : i < 42
    · obtain ⟨a, c, cA, kA, q1, q2, q3, q4, q5, q6, -⟩ := Cond.exactly_spec (args := #[Value.ref b]) (first := s) (o := none) (s := s) (idx := []) (t := txM i) (cls := "java/lang/String") (at' (tx_ex i hi))
      by_cases h29 : i < 30
      · obtain ⟨t, ht, hT⟩ := va_Tof (f := fun j => .int ((txB i).getD j 0)) (A := fun q : Nat => s.heap.size ≤ q) (tx_ln i h29) (at' (tx_ar i h29)) (va_eqt (at' (tx_le i h29))) (fun j hj => va_eqt (at' (tx_el i h29 j hj))) hA
        exact ⟨(a, t), fun _ => q1, fun _ => ⟨⟨cA, q3, q5, by rw [q6]; exact q2, hA a (Array.getElem?_eq_some_iff.mp q3).1⟩, vk_OFof q1 (va_eqt (at' (tx_co i h29))) hA, vk_OFof q1 ht hA, hT⟩⟩
      · exact ⟨(a, 0), fun _ => q1, fun h => absurd h h29⟩
    · exact ⟨(0, 0), fun h => absurd h hi, fun h => absurd (Nat.lt_trans h (by decide)) hi⟩
  obtain ⟨ad, had⟩ := Classical.axiomOfChoice h0
  obtain ⟨t0, ht0, hT0⟩ := va_Tof (tm := .static RX3 "RIDES_IN_WORD" "[J") (ty := .long) (N := 6) (f := ridesV) (A := fun q : Nat => s.heap.size ≤ q) (by decide) (at' (i := 12) (by decide +kernel)) (va_eqt (at' (i := 13) (by decide +kernel))) (fun j hj => va_eqtl (at' (rd_el j hj))) hA
  obtain ⟨t1, ht1, hT1⟩ := va_Tof (tm := .static RJ6 "DigitOnes" "[B") (ty := .byte) (N := 100) (f := digO) (A := fun q : Nat => s.heap.size ≤ q) (by decide) (at' (i := 21) (by decide +kernel)) (va_eqt (at' (i := 22) (by decide +kernel))) (fun j hj => va_eqt (at' (dg_1 j hj))) hA
  obtain ⟨t2, ht2, hT2⟩ := va_Tof (tm := .static RJ6 "DigitTens" "[B") (ty := .byte) (N := 100) (f := digT) (A := fun q : Nat => s.heap.size ≤ q) (by decide) (at' (i := 124) (by decide +kernel)) (va_eqt (at' (i := 125) (by decide +kernel))) (fun j hj => va_eqt (at' (dg_2 j hj))) hA
  have hZ0 := va_Zof (C := RX3) (n := "RIDES_IN_WORD") (d := "[J") (tb (i := 653) (by decide +kernel)) (tb (i := 19) (by decide +kernel)) ht0 hA
  have hZ1 := va_Zof (C := RJ6) (n := "DigitOnes") (d := "[B") (tb (i := 1283) (by decide +kernel)) (tb (i := 12) (by decide +kernel)) ht1 hA
  have hZ2 := va_Zof (C := RJ6) (n := "DigitTens") (d := "[B") (tb (i := 1285) (by decide +kernel)) (tb (i := 12) (by decide +kernel)) ht2 hA
  have hZ3 := va_Zof (C := "java/lang/String") (n := "COMPACT_STRINGS") (d := "Z") (v := .int 1) (tb (i := 72) (by decide +kernel)) (tb (i := 3) (by decide +kernel)) (va_eqi (at' (i := 4) (by decide +kernel))) hA
  have hZ4 := va_Zqof (C := "jdk/internal/util/Preconditions") (n := "SIOOBE_FORMATTER") (d := "Ljava/util/function/BiFunction;") (tb (i := 88) (by decide +kernel)) (tb (i := 10) (by decide +kernel)) (at' (i := 5) (by decide +kernel)) hA
  have hZ5 := vx_Zqof (C := Bundle.tN) (n := "UNASSIGNED_STACK") (d := Bundle.steD) (tb (i := 427) (by decide +kernel)) (tb (i := 22) (by decide +kernel)) (at' (i := 9) (by decide +kernel)) hA
  have hZ6 := vx_Zqof (C := Bundle.tN) (n := "SUPPRESSED_SENTINEL") (d := Bundle.listD) (tb (i := 429) (by decide +kernel)) (tb (i := 22) (by decide +kernel)) (at' (i := 10) (by decide +kernel)) hA
  have hN : ∀ w ∈ NW, va_Nw w s := fun w hw => va_tabs (nest_tabs (List.mem_filter.mp hw).2) rfl (hts w (List.mem_append_right _ (List.mem_filter.mp hw).1))
  refine ⟨fun i => if i = 0 then t0 else if i = 1 then t1 else if i = 2 then t2 else if i = 3 then b else if i = 4 then L else if i < 60 then (ad (i - 10)).1 else if i < 200 then (ad (i - 60)).2 else (xs (i - 200)).toUInt32.toNat, rfl, rfl, fun g hg1 hg2 hAA => ?_⟩
  have e0 : g.2.2.2.2 0 = t0 := by rw [hg2]; rfl
  have e1 : g.2.2.2.2 1 = t1 := by rw [hg2]; rfl
  have e2 : g.2.2.2.2 2 = t2 := by rw [hg2]; rfl
  have e3 : g.2.2.2.2 3 = b := by rw [hg2]; rfl
  have e4 : g.2.2.2.2 4 = L := by rw [hg2]; rfl
  have e5 : ∀ i, i < 42 → g.2.2.2.2 (10 + i) = (ad i).1 := fun i hi => by
    rw [hg2]
    simp only [if_neg (show ¬ 10 + i = 0 by omega), if_neg (show ¬ 10 + i = 1 by omega), if_neg (show ¬ 10 + i = 2 by omega), if_neg (show ¬ 10 + i = 3 by omega), if_neg (show ¬ 10 + i = 4 by omega), if_pos (show 10 + i < 60 by omega), Nat.add_sub_cancel_left]
  have e6 : ∀ i, i < 42 → g.2.2.2.2 (60 + i) = (ad i).2 := fun i hi => by
    rw [hg2]
    simp only [if_neg (show ¬ 60 + i = 0 by omega), if_neg (show ¬ 60 + i = 1 by omega), if_neg (show ¬ 60 + i = 2 by omega), if_neg (show ¬ 60 + i = 3 by omega), if_neg (show ¬ 60 + i = 4 by omega), if_neg (show ¬ 60 + i < 60 by omega), if_pos (show 60 + i < 200 by omega), Nat.add_sub_cancel_left]
  have e7 : ∀ j, g.2.2.2.2 (200 + j) = (xs j).toUInt32.toNat := fun j => by
    rw [hg2]
    simp only [if_neg (show ¬ 200 + j = 0 by omega), if_neg (show ¬ 200 + j = 1 by omega), if_neg (show ¬ 200 + j = 2 by omega), if_neg (show ¬ 200 + j = 3 by omega), if_neg (show ¬ 200 + j = 4 by omega), if_neg (show ¬ 200 + j < 60 by omega), if_neg (show ¬ 200 + j < 200 by omega), Nat.add_sub_cancel_left]
  rw [hg1]
  refine ⟨hN, by rw [e0]; exact hZ0, by rw [e0]; exact hT0, ⟨⟨⟨by rw [e1]; exact hZ1, by rw [e1]; exact hT1⟩, ⟨by rw [e2]; exact hZ2, by rw [e2]; exact hT2⟩, hZ3, hZ4⟩, fun i hi => ?_, fun i hi => ?_, hZ5, hZ6⟩, hAA, ?_⟩
  · rw [e5 i (Nat.lt_trans hi (by decide)), e6 i (Nat.lt_trans hi (by decide))]
    exact (had i).2 hi
  · rw [e5 i hi]
    exact vk_R.of (tb (tx_sr i hi)) ((had i).1 hi)
  · unfold Sc
    rw [e3, e4]
    obtain ⟨scr, p1, p2, p3, p4, p5⟩ := hX
    exact ⟨scr, p1, p2, p3, Nat.le_of_eq p4.symm, by rw [p4], fun j hj => by show _ = some (Value.int (Int32.ofNat (g.2.2.2.2 (200 + j)))); rw [e7, ofN_u]; exact p5 j hj, hA b (Array.getElem?_eq_some_iff.mp p1).1⟩
theorem K_at {s : State} {b : Nat} (hts : ∀ w ∈ lw_tbl, w.before #[Value.ref b] s = true) : ∃ (D : va_G) (T : Nat → ClassId), va_K D vwCl (tysT T) s ∧ ∀ g : Gx, g.2.2.1 = T → AA g s := by
  have tb : ∀ {i : Nat} {w : Cond}, tables_1[i]? = some w → w.before #[Value.ref b] s = true := fun h => hts _ (List.mem_append_right _ (List.mem_of_getElem? h))
  have hG : ∀ w ∈ GW, w.before #[Value.ref b] s = true := fun w hw => hts w (List.mem_filter.mp hw).1
  have h0 : ∀ ci : Nat, ∃ q : ClassId × (Nat → Nat), ∀ r : vw_C, vwCl[ci]? = some r → u_Kn s r.1 r.2.1 r.2.2 q.1 q.2 := by
    intro ci
    by_cases hc : ci < 12
    · rcases (show ci = 0 ∨ ci = 1 ∨ ci = 2 ∨ ci = 3 ∨ ci = 4 ∨ ci = 5 ∨ ci = 6 ∨ ci = 7 ∨ ci = 8 ∨ ci = 9 ∨ ci = 10 ∨ ci = 11 by omega) with rfl | rfl | rfl | rfl | rfl | rfl | rfl | rfl | rfl | rfl | rfl | rfl
      · obtain ⟨c, iS, hK⟩ := u_known (C := RX0) (T := TX0) (N := 16) (n := 16) hG (cls_GW (ci := 0) rfl) (tb (i := 142) (by decide +kernel))
        exact ⟨(c, iS), fun r hr => by obtain rfl := Option.some.inj hr; exact hK⟩
      · obtain ⟨c, iS, hK⟩ := u_known (C := RX1) (T := TX1) (N := 3) (n := 3) hG (cls_GW (ci := 1) rfl) (tb (i := 312) (by decide +kernel))
        exact ⟨(c, iS), fun r hr => by obtain rfl := Option.some.inj hr; exact hK⟩
      · obtain ⟨c, iS, hK⟩ := u_known (C := RX2) (T := TX2) (N := 5) (n := 5) hG (cls_GW (ci := 2) rfl) (tb (i := 290) (by decide +kernel))
        exact ⟨(c, iS), fun r hr => by obtain rfl := Option.some.inj hr; exact hK⟩
      · obtain ⟨c, iS, hK⟩ := u_known (C := RX3) (T := TX3) (N := 7) (n := 7) hG (cls_GW (ci := 3) rfl) (tb (i := 262) (by decide +kernel))
        exact ⟨(c, iS), fun r hr => by obtain rfl := Option.some.inj hr; exact hK⟩
      · obtain ⟨c, iS, hK⟩ := u_known (C := RX4) (T := TX4) (N := 7) (n := 7) hG (cls_GW (ci := 4) rfl) (tb (i := 209) (by decide +kernel))
        exact ⟨(c, iS), fun r hr => by obtain rfl := Option.some.inj hr; exact hK⟩
      · obtain ⟨c, iS, hK⟩ := u_known (C := RX5) (T := TX5) (N := 2) (n := 2) hG (cls_GW (ci := 5) rfl) (tb (i := 38) (by decide +kernel))
        exact ⟨(c, iS), fun r hr => by obtain rfl := Option.some.inj hr; exact hK⟩
      · obtain ⟨c, iS, hK⟩ := u_known (C := RX6) (T := TX6) (N := 7) (n := 7) hG (cls_GW (ci := 6) rfl) (tb (i := 54) (by decide +kernel))
        exact ⟨(c, iS), fun r hr => by obtain rfl := Option.some.inj hr; exact hK⟩
      · obtain ⟨c, iS, hK⟩ := u_known (C := RX7) (T := TX7) (N := 6) (n := 6) hG (cls_GW (ci := 7) rfl) (tb (i := 237) (by decide +kernel))
        exact ⟨(c, iS), fun r hr => by obtain rfl := Option.some.inj hr; exact hK⟩
      · obtain ⟨c, iS, hK⟩ := u_known (C := RX8) (T := TX8) (N := 11) (n := 11) hG (cls_GW (ci := 8) rfl) (tb (i := 30) (by decide +kernel))
        exact ⟨(c, iS), fun r hr => by obtain rfl := Option.some.inj hr; exact hK⟩
      · obtain ⟨c, iS, hK⟩ := u_known (C := RX9) (T := TX9) (N := 5) (n := 5) hG (cls_GW (ci := 9) rfl) (tb (i := 858) (by decide +kernel))
        exact ⟨(c, iS), fun r hr => by obtain rfl := Option.some.inj hr; exact hK⟩
      · obtain ⟨c, iS, hK⟩ := u_known (C := RJ0) (T := TJ0) (N := 4) (n := 4) hG (cls_GW (ci := 10) rfl) (tb (i := 1326) (by decide +kernel))
        exact ⟨(c, iS), fun r hr => by obtain rfl := Option.some.inj hr; exact hK⟩
      · obtain ⟨c, iS, hK⟩ := u_known (C := RJ4) (T := TJ4) (N := 4) (n := 4) hG (cls_GW (ci := 11) rfl) (tb (i := 1299) (by decide +kernel))
        exact ⟨(c, iS), fun r hr => by obtain rfl := Option.some.inj hr; exact hK⟩
    · refine ⟨(0, fun _ => 0), fun r hr => ?_⟩
      have := (List.getElem?_eq_some_iff.mp hr).1
      exact absurd this hc
  obtain ⟨f, hf⟩ := Classical.axiomOfChoice h0
  have ha : ∀ ty : FieldType, (Cond.arrayClass ty).before #[Value.ref b] s = true → ∃ c : ClassId, ArrOfT s c ty ∧ s.vm.findClass ("[" ++ ty.toString) = some c := by
    intro ty h
    obtain ⟨cA, kA, comp, h1, h2, h3⟩ := Cond.arrayClass_spec h
    exact ⟨cA, fun n z => ⟨fun k h => (by cases h), kA, h2, comp, h3⟩, h1⟩
  obtain ⟨ci, hi1, hi2⟩ := ha .int (hG _ w_arrInt)
  obtain ⟨cl, hl1, hl2⟩ := ha .long (hG _ w_arrLong)
  obtain ⟨cb, hb1, hb2⟩ := ha .byte (hG _ w_arrByte)
  have hAO : (Cond.arrayOver (.array .int)).before #[] s = true := tb (i := 892) w_aa
  obtain ⟨comp, ca, ka, o1, o2, o3, o4, o5⟩ := arrayOverA_spec hAO
  have hcc : comp = ci := by
    have e : s.vm.findClass ("[" ++ FieldType.int.toString) = some comp := o1
    rw [hi2] at e
    exact (Option.some.inj e).symm
  subst hcc
  refine ⟨(fun i => (f i).1, fun i => (f i).2), fun i => if i = 0 then comp else if i = 1 then cl else if i = 2 then cb else ca, ⟨fun c q hq => hf c q hq, fun k q hq => ?_⟩, fun g hg => ⟨hAO, ka, ?_, ?_⟩⟩
  · rcases (show k = 0 ∨ k = 1 ∨ k = 2 ∨ k = 3 ∨ 4 ≤ k by omega) with rfl | rfl | rfl | rfl | hk
    · obtain rfl := Option.some.inj hq; exact ⟨hi1, hi2⟩
    · obtain rfl := Option.some.inj hq; exact ⟨hl1, hl2⟩
    · obtain rfl := Option.some.inj hq; exact ⟨hb1, hb2⟩
    · obtain rfl := Option.some.inj hq; exact ⟨fun n z => ⟨fun k h => (by cases h), ka, o3, comp, o4⟩, o5⟩
    · exact absurd (List.getElem?_eq_some_iff.mp hq).1 (Nat.not_lt.mpr hk)
  · rw [hg]; exact o3
  · rw [hg]; exact o4
theorem Nc_at {s : State} {b : Nat} (hgv : (Jvm.Cond.and given_1 narrow_1).before #[Value.ref b] s = true) : va_Nc "java/lang/IndexOutOfBoundsException" "java/lang/IllegalStateException" s :=
  va_Nc.of (flat_of_before _ hgv _ (List.mem_of_getElem? (i := 239) (by decide +kernel)))
