theorem kX9_23 : Cond.fieldLink RX9 23 "FeudBookLaw$Sim" "days" "I" ∈ GW := gw_mem 1148 (by decide +kernel) (by decide +kernel)
theorem kX9_67 : Cond.methodLink RX9 67 yX9_standing ∈ GW := gw_mem 875 (by decide +kernel) (by decide +kernel)
theorem bX9_standing : CBv yX9_standing cX9_standing 6 (some .int) 0 := ⟨⟨gw_mem 878 (by decide +kernel) (by decide +kernel), gw_mem 5 (by decide +kernel) (by decide +kernel), by decide +kernel, by decide⟩, gw_mem 876 (by decide +kernel) (by decide +kernel), gw_mem 877 (by decide +kernel) (by decide +kernel)⟩
theorem kX9_71 : Cond.methodLink RX9 71 yX9_following ∈ GW := gw_mem 887 (by decide +kernel) (by decide +kernel)
theorem bX9_following : CBv yX9_following cX9_following 3 (some (.array (.array .int))) 0 := ⟨⟨gw_mem 890 (by decide +kernel) (by decide +kernel), gw_mem 5 (by decide +kernel) (by decide +kernel), by decide +kernel, by decide⟩, gw_mem 888 (by decide +kernel) (by decide +kernel), gw_mem 889 (by decide +kernel) (by decide +kernel)⟩
theorem kX9_75 : Cond.methodLink RX9 75 yX9_parts ∈ GW := gw_mem 893 (by decide +kernel) (by decide +kernel)
theorem bX9_parts : CBs yX9_parts cX9_parts 4 (some (.array .int)) 1 := ⟨⟨gw_mem 895 (by decide +kernel) (by decide +kernel), gw_mem 5 (by decide +kernel) (by decide +kernel), by decide +kernel, by decide⟩, gw_mem 894 (by decide +kernel) (by decide +kernel)⟩
theorem kX9_79 : Cond.methodLink RX9 79 yX9_many ∈ GW := gw_mem 896 (by decide +kernel) (by decide +kernel)
theorem bX9_many : CBs yX9_many cX9_many 3 (some .int) 1 := ⟨⟨gw_mem 898 (by decide +kernel) (by decide +kernel), gw_mem 5 (by decide +kernel) (by decide +kernel), by decide +kernel, by decide⟩, gw_mem 897 (by decide +kernel) (by decide +kernel)⟩
theorem kX9_83 : Cond.methodLink RX9 83 yX9_peaces_ ∈ GW := gw_mem 899 (by decide +kernel) (by decide +kernel)
theorem bX9_peaces_ : CBv yX9_peaces_ cX9_peaces_ 1 (some .int) 0 := ⟨⟨gw_mem 902 (by decide +kernel) (by decide +kernel), gw_mem 5 (by decide +kernel) (by decide +kernel), by decide +kernel, by decide⟩, gw_mem 900 (by decide +kernel) (by decide +kernel), gw_mem 901 (by decide +kernel) (by decide +kernel)⟩
/-! Whether an order is due, by hand; a day passes -/
theorem Keep.tr {lay lay1 : List Kd} {a a1 a2 : Nat → Nat} {x x1 x2 : XS} (h1 : Keep lay a a1 x x1 (fun _ => False)) (h2 : Keep lay1 a1 a2 x1 x2 (fun _ => False)) (hl : lay.length ≤ lay1.length) : Keep lay a a2 x x2 (fun _ => False) :=
  ⟨fun j hj => (h2.1 j (by omega)).trans (h1.1 j hj), fun i hi hQ j => ⟨((h2.2 i (by omega) hQ j).1).trans (h1.2 i hi hQ j).1, ((h2.2 i (by omega) hQ j).2).trans (h1.2 i hi hQ j).2⟩⟩
theorem lst_le {A : Mat} {c : Nat} (hc : c < 20) (h : A c c = true) : lst A c ≤ c := (lst_lt hc (Nat.le_refl 20) h).1
set_option maxHeartbeats 4000000 in
set_option maxRecDepth 100000 in
theorem c_X9_isDue {g : Gx} {a : Nat → Nat} {x : XS} {lay : List Kd} {q : Nat} {b : Bok} {m dy ca : Nat} {j : Nat} (hL : SimL lay q b) (hW : BW b) (hX : SimX x q b m dy ca) (hm : m < 2 ^ 32) (hC : Cl lay) (hj : j < bM b) (hdy : dy < 1000) : Mx g yX9_isDue cX9_isDue 3 (some .boolean) 12 13 130 lay a x [.ref (a q), .ref (a (q + 3 + bS b + j))] (pr (some (.int (b2i (dueB b m dy j)))) x) := by
  refine Mx_of (by decide +kernel) (Nat.le_of_ble_eq_true rfl) ?_
  intro k hk he hg
  subst hg

  have hF := hW.1
  have hS := hW.2.1
  have hlt := hL.lt
  have n3 := nI_pos (n := bF b) (by omega)
  have n4 := nI_clamp (n := bF b) (by omega)
  have B := hW.2.2.2.2 j hj
  have hXo := hX.2.2 j hj
  have hro := hL.2.2.2.2 j hj
  have hA : bo b j 3 % (2 * bF b) < 2 * bF b := Nat.mod_lt _ (by omega)
  have hA4 : bo b j 4 % (2 * bF b) < 2 * bF b := Nat.mod_lt _ (by omega)
  refine xaload_n hk dX9_isDue_0 rfl ?_
  refine xiconst (v := 3) hk dX9_isDue_1 (by decide) ?_
  refine xiald hk dX9_isDue_2 hro (show vp_in (nI 3) 6 from vp_in_nI (by decide) (by decide)) ?_
  rw [show (3 : Int32).toNatClampNeg = 3 from rfl, hXo 3 (by decide)]
  refine xistore_n hk dX9_isDue_3 (by decide) ?_
  refine xaload_n hk dX9_isDue_4 rfl ?_
  refine xiconst (v := 2) hk dX9_isDue_5 (by decide) ?_
  refine xiald hk dX9_isDue_6 hro (show vp_in (nI 2) 6 from vp_in_nI (by decide) (by decide)) ?_
  rw [show (2 : Int32).toNatClampNeg = 2 from rfl, hXo 2 (by decide)]
  rcases (show bo b j 2 = 0 ∨ bo b j 2 = 1 ∨ bo b j 2 = 2 ∨ bo b j 2 = 3 ∨ bo b j 2 = 4 ∨ bo b j 2 = 5 by omega) with hk2 | hk2 | hk2 | hk2 | hk2 | hk2
  · rw [hk2]
    refine xtableIn hk 40 dX9_isDue_7 (by decide) (by decide) (off := 33) (by decide) (by decide) ?_
    refine xiconst (v := 1) hk dX9_isDue_40 (by decide) ?_
    refine xzret hk he dX9_isDue_41 ⟨by omega, by omega⟩ rfl ?_
    exact ⟨by unfold dueB; rw [if_pos hk2]; rfl, rfl⟩
  · rw [hk2]
    refine xtableIn hk 42 dX9_isDue_7 (by decide) (by decide) (off := 35) (by decide) (by decide) ?_
    refine xaload_n hk dX9_isDue_42 rfl ?_
    refine xgetI (ci := 9) (f := 3) hk dX9_isDue_43 ⟨rfl, by decide, _, hL.1, rfl⟩ kX9_23 ?_
    rw [hX.1.2.1]
    refine xiconst (v := 3) hk dX9_isDue_46 (by decide) ?_
    refine xirem hk dX9_isDue_47 (by decide) ?_
    rw [show (3 : Int32) = nI 3 from rfl, rem_nI (by omega) (by omega) (by omega)]
    refine xiload_n hk dX9_isDue_48 rfl ?_
    refine xiconst (v := 3) hk dX9_isDue_49 (by decide) ?_
    refine xirem hk dX9_isDue_50 (by decide) ?_
    rw [show (3 : Int32) = nI 3 from rfl, rem_nI (by omega) (by omega) (by omega)]
    refine xicmp_ne hk 58 dX9_isDue_51 (by decide) (fun h51 => ?_) (fun h51 => ?_)
    · rw [nI_eq (by omega) (by omega)] at h51
      refine xiconst (v := 0) hk dX9_isDue_58 (by decide) ?_
      refine xzret hk he dX9_isDue_59 ⟨by omega, by omega⟩ rfl ?_
      exact ⟨by unfold dueB; rw [if_neg (by omega), if_pos hk2]; first | (rw [decide_eq_false h51]; rfl) | (rw [decide_eq_true h51]; rfl), rfl⟩
    · rw [nI_eq (by omega) (by omega)] at h51
      refine xiconst (v := 1) hk dX9_isDue_54 (by decide) ?_
      refine xgoto hk 59 dX9_isDue_55 (by decide) ?_
      refine xzret hk he dX9_isDue_59 ⟨by omega, by omega⟩ rfl ?_
      exact ⟨by unfold dueB; rw [if_neg (by omega), if_pos hk2]; first | (rw [decide_eq_false h51]; rfl) | (rw [decide_eq_true h51]; rfl), rfl⟩
  · rw [hk2]
    refine xtableIn hk 60 dX9_isDue_7 (by decide) (by decide) (off := 53) (by decide) (by decide) ?_
    refine xaload_n hk dX9_isDue_60 rfl ?_
    refine xaload_n hk dX9_isDue_61 rfl ?_
    refine xgetI (ci := 9) (f := 0) hk dX9_isDue_62 ⟨rfl, by decide, _, hL.1, rfl⟩ kX9_19 ?_
    rw [hX.1.1]
    refine xnewI (N := bF b) hk dX9_isDue_65 n3 n4 (Nat.le_trans (Nat.mul_le_mul_right _ (show bF b ≤ 100 by omega)) (by decide)) (by omega) (by omega) (okR_new hC) (fun a1 h1 => ?_)
    rw [← h1 q (by omega)]
    rw [← h1 (q + 3 + bS b + j) (by omega)]
    have hL1 : SimL (lay ++ [.inr (0, bF b)]) q b := hL.app
    refine xcallVZ hk (q := q) (c_X9_peaces (dy := dy) (ca := ca) (qt := lay.length) (m := m) hL1 hW (hX.of (fun i j h3 h4 => (clr_ne (by omega) _).1)) hm hC.appR app_n (by omega)) bX9_peaces kX9_49 dX9_isDue_67 rfl ⟨_, _, _, _, hL1.1, rfl⟩ rfl (by omega) ⟨by omega, by omega⟩ (Nat.le_of_ble_eq_true rfl) (fun v lay2 a2 x2 hv => ?_)
    obtain ⟨rfl, rfl, K2, V2, T2⟩ := hv
    rw [List.length_append, List.length_singleton] at V2
    rw [List.length_append, List.length_singleton]
    have K3 : Keep lay a a2 x x2 (fun _ => False) := ⟨fun j hj => by rw [K2.1 j (by rw [List.length_append, List.length_singleton]; omega), h1 j (by omega)], fun i hi _ j => by
      have e := K2.2 i (by rw [List.length_append, List.length_singleton]; omega) (by omega) j
      exact ⟨e.1.trans (clr_ne (by omega) _).1, e.2.trans (clr_ne (by omega) _).2⟩⟩
    have hrow : ((lay ++ [(.inr (0, bF b) : Kd)]) ++ [.inr (0, 2 + 2 * bF b)])[lay.length + 1]? = some (.inr (0, 2 + 2 * bF b)) := by
      rw [show lay.length + 1 = (lay ++ [(.inr (0, bF b) : Kd)]).length by rw [List.length_append, List.length_singleton]]
      exact app_n
    rw [← K2.1 q (by rw [List.length_append, List.length_singleton]; omega)]
    refine xiconst (v := 2) hk dX9_isDue_70 (by decide) ?_
    refine xiload_n hk dX9_isDue_71 rfl ?_
    refine xiconst (v := 2) hk dX9_isDue_72 (by decide) ?_
    refine xaload_n hk dX9_isDue_73 rfl ?_
    refine xgetI (ci := 9) (f := 0) hk dX9_isDue_74 ⟨rfl, by decide, _, (hL1.app (l := [.inr (0, 2 + 2 * bF b)])).1, rfl⟩ kX9_19 ?_
    rw [(hX.of (fun i j h3 h4 => (K3.2 i (by omega) (fun z => z) j).1)).1.1]
    refine ximul hk dX9_isDue_77 ?_
    rw [two_nI]
    refine xirem hk dX9_isDue_78 (fun z => by have := (nI_eq (a := 2 * bF b) (b := 0) (by omega) (by decide)).mp z; omega) ?_
    rw [rem_nI (by omega) (by omega) (by omega)]
    refine xiadd hk dX9_isDue_79 ?_
    rw [show (2 : Int32) = nI 2 from rfl, nI_add]
    refine xiald hk dX9_isDue_80 hrow (vp_in_nI (by omega) (by omega)) ?_
    rw [nI_clamp (by omega), V2 _ (by omega)]
    rw [List.append_assoc]
    refine xlocs (L' := []) (fun _ h => absurd h List.not_mem_nil) ?_
    refine xback hC K3 ?_
    have hcn : cN (Pm b m) (bF b) (2 + bo b j 3 % (2 * bF b)) ≤ 32 := by
      unfold cN
      rw [if_neg (by omega), if_neg (by omega)]
      exact Nat.le_trans (fb_ct_le _ _) (small_p2 _ hF.2)
    refine xif_le hk 88 dX9_isDue_81 (by decide) (fun h81 => ?_) (fun h81 => ?_)
    · rw [show (0 : Int32) = nI 0 from rfl, nI_leI (by omega) (by decide)] at h81
      refine xiconst (v := 0) hk dX9_isDue_88 (by decide) ?_
      refine xzret hk he dX9_isDue_89 ⟨by omega, by omega⟩ rfl ?_
      exact ⟨by unfold dueB; rw [if_neg (by omega), if_neg (by omega), if_pos hk2]; first | (rw [decide_eq_false (by omega)]; rfl) | (rw [decide_eq_true (by omega)]; rfl), rfl⟩
    · rw [show (0 : Int32) = nI 0 from rfl, nI_leI (by omega) (by decide)] at h81
      refine xiconst (v := 1) hk dX9_isDue_84 (by decide) ?_
      refine xgoto hk 89 dX9_isDue_85 (by decide) ?_
      refine xzret hk he dX9_isDue_89 ⟨by omega, by omega⟩ rfl ?_
      exact ⟨by unfold dueB; rw [if_neg (by omega), if_neg (by omega), if_pos hk2]; first | (rw [decide_eq_false (by omega)]; rfl) | (rw [decide_eq_true (by omega)]; rfl), rfl⟩
  · rw [hk2]
    refine xtableIn hk 90 dX9_isDue_7 (by decide) (by decide) (off := 83) (by decide) (by decide) ?_
    refine xaload_n hk dX9_isDue_90 rfl ?_
    refine xgetR (ci := 9) (f := 1) (j := q + 1) hk dX9_isDue_91 ⟨rfl, by decide, _, hL.1, rfl⟩ kX9_9 ?_
    refine xaload_n hk dX9_isDue_94 rfl ?_
    refine xiconst (v := 4) hk dX9_isDue_95 (by decide) ?_
    refine xiald hk dX9_isDue_96 hro (show vp_in (nI 4) 6 from vp_in_nI (by decide) (by decide)) ?_
    rw [show (4 : Int32).toNatClampNeg = 4 from rfl, hXo 4 (by decide)]
    refine xaald hk dX9_isDue_97 hL.2.1 (rows_in B.2.2.2.2.1 (by omega)) (rows_at B.2.2.2.2.1 (by omega)) ?_
    refine xiconst (v := 3) hk dX9_isDue_98 (by decide) ?_
    refine xiald hk dX9_isDue_99 (hL.2.2.2.1 _ B.2.2.2.2.1) (show vp_in (nI 3) 4 from vp_in_nI (by decide) (by decide)) ?_
    rw [show (3 : Int32).toNatClampNeg = 3 from rfl, (hX.2.1 _ B.2.2.2.2.1).2.2.2]
    refine xif_eq hk 111 dX9_isDue_100 (by decide) (fun h100 => ?_) (fun h100 => ?_)
    · rw [b2i_0] at h100
      refine xiconst (v := 1) hk dX9_isDue_111 (by decide) ?_
      refine xgoto hk 116 dX9_isDue_112 (by decide) ?_
      refine xzret hk he dX9_isDue_116 ⟨by omega, by omega⟩ rfl ?_
      exact ⟨by unfold dueB; rw [if_neg (by omega), if_neg (by omega), if_neg (by omega), if_pos hk2]; first | (rw [h100]; rfl) | (rw [h100, decide_eq_false (by omega)]; rfl) | (rw [h100, decide_eq_true (by omega)]; rfl), rfl⟩
    · rw [b2i_t] at h100
      refine xaload_n hk dX9_isDue_103 rfl ?_
      refine xcallV hk (q := q) (c_X9_standing hL hW hX) bX9_standing kX9_67 dX9_isDue_104 rfl ⟨_, _, _, _, hL.1, rfl⟩ rfl (by omega) ⟨by omega, by omega⟩ (Nat.le_of_ble_eq_true rfl) (det ?_)
      have hct := fb_ct_le m.testBit (bS b)
      refine xiload_n hk dX9_isDue_107 rfl ?_
      refine xicmp_ge hk 115 dX9_isDue_108 (by decide) (fun h108 => ?_) (fun h108 => ?_)
      · rw [nI_leI (by omega) (by omega)] at h108
        refine xiconst (v := 0) hk dX9_isDue_115 (by decide) ?_
        refine xzret hk he dX9_isDue_116 ⟨by omega, by omega⟩ rfl ?_
        exact ⟨by unfold dueB; rw [if_neg (by omega), if_neg (by omega), if_neg (by omega), if_pos hk2]; first | (rw [h100]; rfl) | (rw [h100, decide_eq_false (by omega)]; rfl) | (rw [h100, decide_eq_true (by omega)]; rfl), rfl⟩
      · rw [nI_leI (by omega) (by omega)] at h108
        refine xiconst (v := 1) hk dX9_isDue_111 (by decide) ?_
        refine xgoto hk 116 dX9_isDue_112 (by decide) ?_
        refine xzret hk he dX9_isDue_116 ⟨by omega, by omega⟩ rfl ?_
        exact ⟨by unfold dueB; rw [if_neg (by omega), if_neg (by omega), if_neg (by omega), if_pos hk2]; first | (rw [h100]; rfl) | (rw [h100, decide_eq_false (by omega)]; rfl) | (rw [h100, decide_eq_true (by omega)]; rfl), rfl⟩
  · rw [hk2]
    refine xtableIn hk 117 dX9_isDue_7 (by decide) (by decide) (off := 110) (by decide) (by decide) ?_
    refine xaload_n hk dX9_isDue_117 rfl ?_
    refine xaload_n hk dX9_isDue_118 rfl ?_
    refine xiconst (v := 4) hk dX9_isDue_119 (by decide) ?_
    refine xiald hk dX9_isDue_120 hro (show vp_in (nI 4) 6 from vp_in_nI (by decide) (by decide)) ?_
    rw [show (4 : Int32).toNatClampNeg = 4 from rfl, hXo 4 (by decide)]
    refine xiconst (v := 2) hk dX9_isDue_121 (by decide) ?_
    refine xaload_n hk dX9_isDue_122 rfl ?_
    refine xgetI (ci := 9) (f := 0) hk dX9_isDue_123 ⟨rfl, by decide, _, hL.1, rfl⟩ kX9_19 ?_
    rw [hX.1.1]
    refine ximul hk dX9_isDue_126 ?_
    rw [two_nI]
    refine xirem hk dX9_isDue_127 (fun z => by have := (nI_eq (a := 2 * bF b) (b := 0) (by omega) (by decide)).mp z; omega) ?_
    rw [rem_nI (by omega) (by omega) (by omega)]
    refine xcallVZ hk (q := q) (c_X9_from (dy := dy) (ca := ca) (m := m) hL hW hX hm hC hA4) bX9_from kX9_63 dX9_isDue_128 rfl ⟨_, _, _, _, hL.1, rfl⟩ rfl (by omega) ⟨by omega, by omega⟩ (Nat.le_of_ble_eq_true rfl) (fun v lay2 a2 x2 hv => ?_)
    obtain ⟨rfl, rfl, K2, V2⟩ := hv
    have fi := from_iff hW hm hA4 hA
    rw [← K2.1 q (by omega), ← K2.1 (q + 3 + bS b + j) (by omega)]
    refine xiload_n hk dX9_isDue_131 rfl ?_
    refine xiconst (v := 2) hk dX9_isDue_132 (by decide) ?_
    refine xaload_n hk dX9_isDue_133 rfl ?_
    refine xgetI (ci := 9) (f := 0) hk dX9_isDue_134 ⟨rfl, by decide, _, (hL.app (l := [.inr (0, 2 * bF b)])).1, rfl⟩ kX9_19 ?_
    rw [(hX.of (fun i j h3 h4 => (K2.2 i (by omega) (fun z => z) j).1)).1.1]
    refine ximul hk dX9_isDue_137 ?_
    rw [two_nI]
    refine xirem hk dX9_isDue_138 (fun z => by have := (nI_eq (a := 2 * bF b) (b := 0) (by omega) (by decide)).mp z; omega) ?_
    rw [rem_nI (by omega) (by omega) (by omega)]
    refine xiald hk dX9_isDue_139 app_n (vp_in_nI (by omega) (by omega)) ?_
    rw [nI_clamp (by omega), V2 _ hA, K2.1 q (by omega), K2.1 (q + 3 + bS b + j) (by omega)]
    refine xback hC K2 ?_
    refine xsipush (v := 999) hk dX9_isDue_140 (by decide) ?_
    refine xicmp_ge hk 166 dX9_isDue_143 (by decide) (fun h143 => ?_) (fun h143 => ?_)
    · rw [show (999 : Int32) = nI 999 from rfl, nI_leI (by decide) (by omega)] at h143
      refine xiconst (v := 0) hk dX9_isDue_166 (by decide) ?_
      refine xzret hk he dX9_isDue_167 ⟨by omega, by omega⟩ rfl ?_
      refine ⟨?_, rfl⟩
      unfold dueB; rw [if_neg (by omega), if_neg (by omega), if_neg (by omega), if_neg (by omega), if_pos hk2]
      first
        | (rw [show RB b m (bo b j 4 % (2 * bF b)) (bo b j 3 % (2 * bF b)) = false from Bool.eq_false_iff.mpr (fun z => by have := fi.2.mpr z; omega)]; rfl)
        | (rw [fi.2.mp (by omega), decide_eq_false (show ¬ bo b j 5 < pN (bF b) (RB b m) by unfold pN; omega)]; rfl)
        | (rw [fi.2.mp (by omega), decide_eq_true (show bo b j 5 < pN (bF b) (RB b m) by unfold pN; omega)]; rfl)
    · rw [show (999 : Int32) = nI 999 from rfl, nI_leI (by decide) (by omega)] at h143
      refine xaload_n hk dX9_isDue_146 rfl ?_
      refine xcallVZ hk (q := q) (c_X9_following (dy := dy) (ca := ca) (m := m) hL hW hX hm hC) bX9_following kX9_71 dX9_isDue_147 rfl ⟨_, _, _, _, hL.1, rfl⟩ rfl (by omega) ⟨by omega, by omega⟩ (Nat.le_of_ble_eq_true rfl) (fun v lay3 a3 x3 hv => ?_)
      obtain ⟨rfl, rfl, K3, V3⟩ := hv
      refine xcallSZ hk (c_X9_parts (N := 2 * bF b) (V := fun c d => fromD b m c d) (A := RB b m) (folL_cl hC _ _) (by omega) (folL_full lay (2 * bF b)) (fun c hc => folL_row _ _ _ hc) (fun c hc d hd => ⟨V3 c hc d hd, from_iff hW hm hc hd⟩) (fun c => RR_refl c)) bX9_parts kX9_75 dX9_isDue_150 rfl rfl (by omega) ⟨by omega, by omega⟩ (Nat.le_of_ble_eq_true rfl) (fun v lay4 a4 x4 hv => ?_)
      obtain ⟨rfl, rfl, K4, V4⟩ := hv
      have K5 := K3.tr K4 (by rw [folL_len]; omega)
      refine xcallS hk (c_X9_many (n := 2 * bF b) (pt := lst (RB b m)) app_n (by omega) (fun c hc => ⟨V4 c hc, by have := lst_le (A := RB b m) (show c < 20 by omega) (RR_refl c); omega⟩)) bX9_many kX9_79 dX9_isDue_153 rfl rfl (by omega) ⟨by omega, by omega⟩ (Nat.le_of_ble_eq_true rfl) (det ?_)
      rw [← K3.1 q (by omega), ← K3.1 (q + 3 + bS b + j) (by omega), ← K4.1 q (by rw [folL_len]; omega), ← K4.1 (q + 3 + bS b + j) (by rw [folL_len]; omega)]
      rw [K4.1 q (by rw [folL_len]; omega), K4.1 (q + 3 + bS b + j) (by rw [folL_len]; omega), K3.1 q (by omega), K3.1 (q + 3 + bS b + j) (by omega)]
      unfold folL
      rw [List.append_assoc, List.append_assoc]
      refine xback hC K5 ?_
      have hct := fb_ct_le (fun c => decide (lst (RB b m) c = c)) (2 * bF b)
      refine xaload_n hk dX9_isDue_156 rfl ?_
      refine xiconst (v := 5) hk dX9_isDue_157 (by decide) ?_
      refine xiald hk dX9_isDue_158 hro (show vp_in (nI 5) 6 from vp_in_nI (by decide) (by decide)) ?_
      rw [show (5 : Int32).toNatClampNeg = 5 from rfl, hXo 5 (by decide)]
      refine xicmp_le hk 166 dX9_isDue_159 (by decide) (fun h159 => ?_) (fun h159 => ?_)
      · rw [nI_leI (by omega) (by omega)] at h159
        refine xiconst (v := 0) hk dX9_isDue_166 (by decide) ?_
        refine xzret hk he dX9_isDue_167 ⟨by omega, by omega⟩ rfl ?_
        refine ⟨?_, rfl⟩
        unfold dueB; rw [if_neg (by omega), if_neg (by omega), if_neg (by omega), if_neg (by omega), if_pos hk2]
        first
          | (rw [show RB b m (bo b j 4 % (2 * bF b)) (bo b j 3 % (2 * bF b)) = false from Bool.eq_false_iff.mpr (fun z => by have := fi.2.mpr z; omega)]; rfl)
          | (rw [fi.2.mp (by omega), decide_eq_false (show ¬ bo b j 5 < pN (bF b) (RB b m) by unfold pN; omega)]; rfl)
          | (rw [fi.2.mp (by omega), decide_eq_true (show bo b j 5 < pN (bF b) (RB b m) by unfold pN; omega)]; rfl)
      · rw [nI_leI (by omega) (by omega)] at h159
        refine xiconst (v := 1) hk dX9_isDue_162 (by decide) ?_
        refine xgoto hk 167 dX9_isDue_163 (by decide) ?_
        refine xzret hk he dX9_isDue_167 ⟨by omega, by omega⟩ rfl ?_
        refine ⟨?_, rfl⟩
        unfold dueB; rw [if_neg (by omega), if_neg (by omega), if_neg (by omega), if_neg (by omega), if_pos hk2]
        first
          | (rw [show RB b m (bo b j 4 % (2 * bF b)) (bo b j 3 % (2 * bF b)) = false from Bool.eq_false_iff.mpr (fun z => by have := fi.2.mpr z; omega)]; rfl)
          | (rw [fi.2.mp (by omega), decide_eq_false (show ¬ bo b j 5 < pN (bF b) (RB b m) by unfold pN; omega)]; rfl)
          | (rw [fi.2.mp (by omega), decide_eq_true (show bo b j 5 < pN (bF b) (RB b m) by unfold pN; omega)]; rfl)
  · rw [hk2]
    refine xtableOut hk 168 dX9_isDue_7 (Or.inr (by decide)) (by decide) ?_
    refine xaload_n hk dX9_isDue_168 rfl ?_
    refine xcallV hk (q := q) (c_X9_peaces_ hL hW hX hm hC) bX9_peaces_ kX9_83 dX9_isDue_169 rfl ⟨_, _, _, _, hL.1, rfl⟩ rfl (by omega) ⟨by omega, by omega⟩ (Nat.le_of_ble_eq_true rfl) (det ?_)
    refine xiconst (v := 4) hk dX9_isDue_172 (by decide) ?_
    refine xiload_n hk dX9_isDue_173 rfl ?_
    refine ximul hk dX9_isDue_174 ?_
    rw [show (4 : Int32) = nI 4 from rfl, show nI 4 * nI (bo b j 3) = nI (4 * bo b j 3) from (Int32.ofNat_mul _ _).symm]
    have hcn := cN_le (W := Pm b m) hF.2
    refine xicmp_gt hk 182 dX9_isDue_175 (by decide) (fun h175 => ?_) (fun h175 => ?_)
    · rw [nI_ltI (by omega) (by omega)] at h175
      refine xiconst (v := 0) hk dX9_isDue_182 (by decide) ?_
      refine xzret hk he dX9_isDue_183 ⟨by omega, by omega⟩ rfl ?_
      exact ⟨by unfold dueB; rw [if_neg (by omega), if_neg (by omega), if_neg (by omega), if_neg (by omega), if_neg (by omega)]; first | (rw [decide_eq_false (by omega)]; rfl) | (rw [decide_eq_true (by omega)]; rfl), rfl⟩
    · rw [nI_ltI (by omega) (by omega)] at h175
      refine xiconst (v := 1) hk dX9_isDue_178 (by decide) ?_
      refine xgoto hk 183 dX9_isDue_179 (by decide) ?_
      refine xzret hk he dX9_isDue_183 ⟨by omega, by omega⟩ rfl ?_
      exact ⟨by unfold dueB; rw [if_neg (by omega), if_neg (by omega), if_neg (by omega), if_neg (by omega), if_neg (by omega)]; first | (rw [decide_eq_false (by omega)]; rfl) | (rw [decide_eq_true (by omega)]; rfl), rfl⟩
