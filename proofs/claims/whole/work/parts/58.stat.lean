
/-! The start: statics and texts as the Statement gives them -/
def nw : List Cond := flatC (Jvm.Cond.and given_1 narrow_1)
def txP : List Nat := [590, 600, 611, 617, 625, 633, 643, 649, 657, 665, 673, 682, 691, 700, 709, 717, 724, 736, 745, 755, 767, 777, 788, 796, 803, 810, 817, 89, 573, 245, 275, 403, 453, 480, 500, 551, 315, 345, 377, 432, 524]
def srP : List Nat := [1822, 1823, 1824, 1825, 1826, 1827, 1828, 1829, 1830, 1831, 1832, 1833, 1834, 1835, 1836, 1837, 1838, 1839, 1840, 1841, 1842, 1843, 1844, 1845, 1846, 1847, 1848, 59, 1323, 858, 905, 1008, 1056, 1071, 1086, 1121, 933, 972, 985, 1048, 1099]
def txM (i : Nat) : Term := .string (txt i).1 (txt i).2.1
theorem tx_ex : ∀ i, i < 41 → nw[txP.getD i 0]? = some (.exactly (txM i) "java/lang/String") := by decide +kernel
theorem tx_co : ∀ i, i < 29 → nw[txP.getD i 0 + 1]? = some (.eq (.field (txM i) "java/lang/String" "coder" "B") (.int 0)) := by decide +kernel
theorem tx_ar : ∀ i, i < 29 → nw[txP.getD i 0 + 2]? = some (.arrayOf (.field (txM i) "java/lang/String" "value" "[B") .byte) := by decide +kernel
theorem tx_le : ∀ i, i < 29 → nw[txP.getD i 0 + 3]? = some (.eq (.length (.field (txM i) "java/lang/String" "value" "[B")) (.int (Int32.ofNat (txB i).length))) := by decide +kernel
theorem tx_el : ∀ i, i < 29 → ∀ j, j < (txB i).length → nw[txP.getD i 0 + 4 + j]? = some (.eq (.elem (.field (txM i) "java/lang/String" "value" "[B") (.int (Int32.ofNat j))) (.int ((txB i).getD j 0))) := by decide +kernel
theorem tx_ln : ∀ i, i < 29 → (txB i).length < 2 ^ 31 := by decide +kernel
theorem tx_sr : ∀ i, i < 41 → tables_1[srP.getD i 0]? = some (.stringRef (txt i).1 (txt i).2.1 (txt i).2.2) := by decide +kernel
def ridesD (j : Nat) : Int64 := ([-6148914691236517206, -3689348814741910324, -1085102592571150096, -71777214294589696, -281470681808896, -4294967296] : List Int64).getD j 0
theorem rd_el : ∀ j, j < 6 → nw[12 + j]? = some (.eq (.elem (.static RX3 "RIDES_IN_WORD" "[J") (.int (Int32.ofNat j))) (.long (ridesD j))) := by decide +kernel
theorem wd_el : ∀ j, j < 27 → nw[23 + j]? = some (.eq (.elem (.static RX10 "WORDS" "[Ljava/lang/String;") (.int (Int32.ofNat j))) (txM j)) := by decide +kernel
theorem Sg_at {s : State} {b : Nat} (hts : ∀ w ∈ lw_tbl, w.before #[Value.ref b] s = true) (hgv : (Jvm.Cond.and given_1 narrow_1).before #[Value.ref b] s = true) : ∃ sa : Nat → Nat, ∀ g : Gx, g.2.2.2.1 = s.heap.size → g.2.2.2.2 = sa → Sg g (fun q => g.2.2.2.1 ≤ q) s s.heap := by
  have hn := flat_of_before _ hgv
  have at' : ∀ {i : Nat} {w : Cond}, nw[i]? = some w → w.before #[Value.ref b] s = true := fun h => hn _ (List.mem_of_getElem? h)
  have tb : ∀ {i : Nat} {w : Cond}, tables_1[i]? = some w → w.before #[Value.ref b] s = true := fun h => hts _ (List.mem_append_right _ (List.mem_of_getElem? h))
  have hA : ∀ a : Nat, a < s.heap.size → ¬ (fun q : Nat => s.heap.size ≤ q) a := fun a h => Nat.not_le.mpr h
  have h0 : ∀ i : Nat, ∃ q : Nat × Nat, (i < 41 → (txM i).eval #[Value.ref b] s none [] s = some (.ref q.1)) ∧ (i < 29 → sC q.1 q.2 (txB i) (fun q : Nat => s.heap.size ≤ q) s s.heap) := by
    intro i
    by_cases hi : i < 41
    · obtain ⟨a, c, cA, kA, q1, q2, q3, q4, q5, q6, -⟩ := Cond.exactly_spec (args := #[Value.ref b]) (first := s) (o := none) (s := s) (idx := []) (t := txM i) (cls := "java/lang/String") (at' (tx_ex i hi))
      by_cases h29 : i < 29
      · obtain ⟨t, ht, hT⟩ := va_Tof (f := fun j => .int ((txB i).getD j 0)) (A := fun q : Nat => s.heap.size ≤ q) (tx_ln i h29) (at' (tx_ar i h29)) (va_eqt (at' (tx_le i h29))) (fun j hj => va_eqt (at' (tx_el i h29 j hj))) hA
        exact ⟨(a, t), fun _ => q1, fun _ => ⟨⟨cA, q3, q5, by rw [q6]; exact q2, hA a (Array.getElem?_eq_some_iff.mp q3).1⟩, vk_OFof q1 (va_eqt (at' (tx_co i h29))) hA, vk_OFof q1 ht hA, hT⟩⟩
      · exact ⟨(a, 0), fun _ => q1, fun h => absurd h h29⟩
    · exact ⟨(0, 0), fun h => absurd h hi, fun h => absurd (Nat.lt_trans h (by decide)) hi⟩
  obtain ⟨ad, had⟩ := Classical.axiomOfChoice h0
  obtain ⟨t0, ht0, hT0⟩ := va_Tof (tm := .static RX3 "RIDES_IN_WORD" "[J") (ty := .long) (N := 6) (f := ridesV) (A := fun q : Nat => s.heap.size ≤ q) (by decide) (at' (i := 10) (by decide +kernel)) (va_eqt (at' (i := 11) (by decide +kernel))) (fun j hj => va_eqtl (at' (rd_el j hj))) hA
  obtain ⟨t1, ht1, hT1⟩ := va_Tof (tm := .static RX10 "WORDS" "[Ljava/lang/String;") (ty := .object "java/lang/String") (N := 27) (f := fun j => .ref (ad j).1) (A := fun q : Nat => s.heap.size ≤ q) (by decide) (at' (i := 21) (by decide +kernel)) (va_eqt (at' (i := 22) (by decide +kernel))) (fun j hj => va_eqv (at' (wd_el j hj)) ((had j).1 (Nat.lt_trans hj (by decide)))) hA
  have hZ0 := va_Zof (C := RX3) (n := "RIDES_IN_WORD") (d := "[J") (tb (i := 543) (by decide +kernel)) (tb (i := 11) (by decide +kernel)) ht0 hA
  have hZ1 := va_Zof (C := RX10) (n := "WORDS") (d := "[Ljava/lang/String;") (tb (i := 1320) (by decide +kernel)) (tb (i := 14) (by decide +kernel)) ht1 hA
  have hZ2 := va_Zof (C := "java/lang/String") (n := "COMPACT_STRINGS") (d := "Z") (v := .int 1) (tb (i := 69) (by decide +kernel)) (tb (i := 4) (by decide +kernel)) (va_eqi (at' (i := 4) (by decide +kernel))) hA
  have hZ3 := va_Zqof (C := "jdk/internal/util/Preconditions") (n := "SIOOBE_FORMATTER") (d := "Ljava/util/function/BiFunction;") (tb (i := 85) (by decide +kernel)) (tb (i := 6) (by decide +kernel)) (at' (i := 5) (by decide +kernel)) hA
  have hZ4 := vx_Zqof (C := Bundle.tN) (n := "UNASSIGNED_STACK") (d := Bundle.steD) (tb (i := 844) (by decide +kernel)) (tb (i := 16) (by decide +kernel)) (at' (i := 18) (by decide +kernel)) hA
  have hZ5 := vx_Zqof (C := Bundle.tN) (n := "SUPPRESSED_SENTINEL") (d := Bundle.listD) (tb (i := 846) (by decide +kernel)) (tb (i := 16) (by decide +kernel)) (at' (i := 19) (by decide +kernel)) hA
  have hN : ∀ w ∈ NW, va_Nw w s := fun w hw => va_tabs (nest_tabs (List.mem_filter.mp hw).2) rfl (hts w (List.mem_append_right _ (List.mem_filter.mp hw).1))
  refine ⟨fun i => if i = 0 then t0 else if i = 1 then t1 else if i < 60 then (ad (i - 10)).1 else (ad (i - 60)).2, fun g hg1 hg2 => ?_⟩
  have e0 : g.2.2.2.2 0 = t0 := by rw [hg2]; rfl
  have e1 : g.2.2.2.2 1 = t1 := by rw [hg2]; rfl
  have e2 : ∀ i, i < 41 → g.2.2.2.2 (10 + i) = (ad i).1 := fun i hi => by
    rw [hg2]
    simp only [if_neg (show ¬ 10 + i = 0 by omega), if_neg (show ¬ 10 + i = 1 by omega), if_pos (show 10 + i < 60 by omega), Nat.add_sub_cancel_left]
  have e3 : ∀ i, g.2.2.2.2 (60 + i) = (ad i).2 := fun i => by
    rw [hg2]
    simp only [if_neg (show ¬ 60 + i = 0 by omega), if_neg (show ¬ 60 + i = 1 by omega), if_neg (show ¬ 60 + i < 60 by omega), Nat.add_sub_cancel_left]
  rw [hg1]
  refine ⟨hN, by rw [e0]; exact hZ0, by rw [e0]; exact hT0, ⟨⟨by rw [e1]; exact hZ1, ?_, hZ2, hZ3⟩, fun i hi => ?_, fun i hi => ?_, hZ4, hZ5⟩⟩
  · rw [e1]
    obtain ⟨cell, p1, p2, p3, p4, p5, p6, p7⟩ := hT1
    exact ⟨cell, p1, p2, p3, p4, p5, fun j hj => (p6 j hj).trans (congrArg (fun q => some (Value.ref q)) (e2 j (Nat.lt_trans hj (by decide))).symm), p7⟩
  · rw [e2 i (Nat.lt_trans hi (by decide)), e3 i]
    exact (had i).2 hi
  · rw [e2 i hi]
    exact vk_R.of (tb (tx_sr i hi)) ((had i).1 hi)
theorem K_at {s : State} {b : Nat} (hts : ∀ w ∈ lw_tbl, w.before #[Value.ref b] s = true) : ∃ (D : va_G) (T : Nat → ClassId), va_K D vwCl (tysT T) s := by
  have tb : ∀ {i : Nat} {w : Cond}, tables_1[i]? = some w → w.before #[Value.ref b] s = true := fun h => hts _ (List.mem_append_right _ (List.mem_of_getElem? h))
  have hG : ∀ w ∈ GW, w.before #[Value.ref b] s = true := fun w hw => hts w (List.mem_filter.mp hw).1
  have h0 : ∀ ci : Nat, ∃ q : ClassId × (Nat → Nat), ∀ r : vw_C, vwCl[ci]? = some r → u_Kn s r.1 r.2.1 r.2.2 q.1 q.2 := by
    intro ci
    by_cases hc : ci < 11
    · rcases (show ci = 0 ∨ ci = 1 ∨ ci = 2 ∨ ci = 3 ∨ ci = 4 ∨ ci = 5 ∨ ci = 6 ∨ ci = 7 ∨ ci = 8 ∨ ci = 9 ∨ ci = 10 by omega) with rfl | rfl | rfl | rfl | rfl | rfl | rfl | rfl | rfl | rfl | rfl
      · obtain ⟨c, iS, hK⟩ := u_known (C := RX0) (T := TX0) (N := 16) (n := 16) hG (cls_GW (ci := 0) rfl) (tb (i := 139) (by decide +kernel))
        exact ⟨(c, iS), fun r hr => by obtain rfl := Option.some.inj hr; exact hK⟩
      · obtain ⟨c, iS, hK⟩ := u_known (C := RX1) (T := TX1) (N := 3) (n := 3) hG (cls_GW (ci := 1) rfl) (tb (i := 309) (by decide +kernel))
        exact ⟨(c, iS), fun r hr => by obtain rfl := Option.some.inj hr; exact hK⟩
      · obtain ⟨c, iS, hK⟩ := u_known (C := RX2) (T := TX2) (N := 5) (n := 5) hG (cls_GW (ci := 2) rfl) (tb (i := 287) (by decide +kernel))
        exact ⟨(c, iS), fun r hr => by obtain rfl := Option.some.inj hr; exact hK⟩
      · obtain ⟨c, iS, hK⟩ := u_known (C := RX3) (T := TX3) (N := 7) (n := 7) hG (cls_GW (ci := 3) rfl) (tb (i := 259) (by decide +kernel))
        exact ⟨(c, iS), fun r hr => by obtain rfl := Option.some.inj hr; exact hK⟩
      · obtain ⟨c, iS, hK⟩ := u_known (C := RX4) (T := TX4) (N := 7) (n := 7) hG (cls_GW (ci := 4) rfl) (tb (i := 206) (by decide +kernel))
        exact ⟨(c, iS), fun r hr => by obtain rfl := Option.some.inj hr; exact hK⟩
      · obtain ⟨c, iS, hK⟩ := u_known (C := RX5) (T := TX5) (N := 2) (n := 2) hG (cls_GW (ci := 5) rfl) (tb (i := 35) (by decide +kernel))
        exact ⟨(c, iS), fun r hr => by obtain rfl := Option.some.inj hr; exact hK⟩
      · obtain ⟨c, iS, hK⟩ := u_known (C := RX6) (T := TX6) (N := 7) (n := 7) hG (cls_GW (ci := 6) rfl) (tb (i := 51) (by decide +kernel))
        exact ⟨(c, iS), fun r hr => by obtain rfl := Option.some.inj hr; exact hK⟩
      · obtain ⟨c, iS, hK⟩ := u_known (C := RX7) (T := TX7) (N := 6) (n := 6) hG (cls_GW (ci := 7) rfl) (tb (i := 234) (by decide +kernel))
        exact ⟨(c, iS), fun r hr => by obtain rfl := Option.some.inj hr; exact hK⟩
      · obtain ⟨c, iS, hK⟩ := u_known (C := RX8) (T := TX8) (N := 11) (n := 11) hG (cls_GW (ci := 8) rfl) (tb (i := 27) (by decide +kernel))
        exact ⟨(c, iS), fun r hr => by obtain rfl := Option.some.inj hr; exact hK⟩
      · obtain ⟨c, iS, hK⟩ := u_known (C := RX9) (T := TX9) (N := 15) (n := 15) hG (cls_GW (ci := 9) rfl) (tb (i := 1129) (by decide +kernel))
        exact ⟨(c, iS), fun r hr => by obtain rfl := Option.some.inj hr; exact hK⟩
      · obtain ⟨c, iS, hK⟩ := u_known (C := RX10) (T := TX10) (N := 26) (n := 26) hG (cls_GW (ci := 10) rfl) (tb (i := 1123) (by decide +kernel))
        exact ⟨(c, iS), fun r hr => by obtain rfl := Option.some.inj hr; exact hK⟩
    · refine ⟨(0, fun _ => 0), fun r hr => ?_⟩
      have := (List.getElem?_eq_some_iff.mp hr).1
      exact absurd this hc
  obtain ⟨f, hf⟩ := Classical.axiomOfChoice h0
  have ha : ∀ ty : FieldType, (Cond.arrayClass ty).before #[Value.ref b] s = true → ∃ c : ClassId, ArrOfT s c ty ∧ s.vm.findClass ("[" ++ ty.toString) = some c := by
    intro ty h
    obtain ⟨cA, kA, comp, h1, h2, h3⟩ := Cond.arrayClass_spec h
    exact ⟨cA, fun n z => ⟨fun k h => (by cases h), kA, h2, comp, h3⟩, h1⟩
  obtain ⟨ci, hi1, hi2⟩ := ha .int (hG _ w_arrInt)
  obtain ⟨cl, hl1, hl2⟩ := ha .long (hG _ w_arrLong)
  obtain ⟨cb, hb1, hb2⟩ := ha .byte (hG _ w_arrByte)
  refine ⟨(fun i => (f i).1, fun i => (f i).2), fun i => if i = 0 then ci else if i = 1 then cl else cb, fun c q hq => hf c q hq, fun k q hq => ?_⟩
  rcases (show k = 0 ∨ k = 1 ∨ k = 2 ∨ 3 ≤ k by omega) with rfl | rfl | rfl | hk
  · obtain rfl := Option.some.inj hq; exact ⟨hi1, hi2⟩
  · obtain rfl := Option.some.inj hq; exact ⟨hl1, hl2⟩
  · obtain rfl := Option.some.inj hq; exact ⟨hb1, hb2⟩
  · exact absurd (List.getElem?_eq_some_iff.mp hq).1 (Nat.not_lt.mpr hk)
theorem Nc_at {s : State} {b : Nat} (hgv : (Jvm.Cond.and given_1 narrow_1).before #[Value.ref b] s = true) : va_Nc "java/lang/IllegalStateException" "java/lang/IndexOutOfBoundsException" s :=
  va_Nc.of (flat_of_before _ hgv _ (List.mem_of_getElem? (i := 87) (by decide +kernel)))
