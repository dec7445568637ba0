theorem kX10_192 : Cond.methodLink RX10 192 Lib.Math.min.name ∈ GW := gw_mem 1403 (by decide +kernel) (by decide +kernel)
theorem kX10_197 : Cond.methodLink RX10 197 Lib.Math.max.name ∈ GW := gw_mem 1772 (by decide +kernel) (by decide +kernel)
theorem kX10_166 : Cond.fieldLinkNest RX10 166 "FeudBookModel$Plan" "code" "[I" "FeudBookModel" ∈ NW := nw_mem 1155 (by decide +kernel) rfl
theorem kX10_179 : Cond.methodLink RX10 179 yX10_partsNow ∈ GW := gw_mem 1670 (by decide +kernel) (by decide +kernel)
theorem bX10_partsNow : CBv yX10_partsNow cX10_partsNow 1 (some .int) 0 := ⟨⟨gw_mem 1673 (by decide +kernel) (by decide +kernel), gw_mem 14 (by decide +kernel) (by decide +kernel), by decide +kernel, by decide⟩, gw_mem 1672 (by decide +kernel) (by decide +kernel), gw_sel 101 (by decide +kernel) (by decide +kernel)⟩
theorem kX10_182 : Cond.methodLink RX10 182 yX10_peaces ∈ GW := gw_mem 1592 (by decide +kernel) (by decide +kernel)
theorem bX10_peaces : CBv yX10_peaces cX10_peaces 2 (some .int) 1 := ⟨⟨gw_mem 1595 (by decide +kernel) (by decide +kernel), gw_mem 14 (by decide +kernel) (by decide +kernel), by decide +kernel, by decide⟩, gw_mem 1594 (by decide +kernel) (by decide +kernel), gw_sel 90 (by decide +kernel) (by decide +kernel)⟩
theorem kX10_184 : Cond.methodLink RX10 184 yX10_claimAt ∈ GW := gw_mem 1765 (by decide +kernel) (by decide +kernel)
theorem bX10_claimAt : CBv yX10_claimAt cX10_claimAt 2 (some .int) 1 := ⟨⟨gw_mem 1768 (by decide +kernel) (by decide +kernel), gw_mem 14 (by decide +kernel) (by decide +kernel), by decide +kernel, by decide⟩, gw_mem 1767 (by decide +kernel) (by decide +kernel), gw_sel 111 (by decide +kernel) (by decide +kernel)⟩
theorem kX10_187 : Cond.methodLink RX10 187 yX10_with ∈ GW := gw_mem 1702 (by decide +kernel) (by decide +kernel)
theorem bX10_with : CBv yX10_with cX10_with 2 (some .int) 1 := ⟨⟨gw_mem 1705 (by decide +kernel) (by decide +kernel), gw_mem 14 (by decide +kernel) (by decide +kernel), by decide +kernel, by decide⟩, gw_mem 1704 (by decide +kernel) (by decide +kernel), gw_sel 104 (by decide +kernel) (by decide +kernel)⟩
theorem kX10_189 : Cond.methodLink RX10 189 yX10_isFrom ∈ GW := gw_mem 1630 (by decide +kernel) (by decide +kernel)
theorem bX10_isFrom : CBv yX10_isFrom cX10_isFrom 3 (some .boolean) 2 := ⟨⟨gw_mem 1633 (by decide +kernel) (by decide +kernel), gw_mem 14 (by decide +kernel) (by decide +kernel), by decide +kernel, by decide⟩, gw_mem 1632 (by decide +kernel) (by decide +kernel), gw_sel 94 (by decide +kernel) (by decide +kernel)⟩
def inB (i : Int32) (n : Nat) : Bool := decide (¬ (i < 0 ∨ n ≤ i.toNatClampNeg))
theorem inB_v {i : Int32} {n : Nat} (h : inB i n = true) : vp_in i n := by unfold vp_in; exact of_decide_eq_true h
def takenF (w : Int32) : Int32 := if w = 15 then 0 else if w = 16 then 0 else if w = 17 then 0 else if w = 18 then 0 else if w = 19 then 2 else if w = 20 then 1 else if w = 21 then 4 else if w = 32 then 1 else -1
def clF (x : XS) (nx : Int32) : Int32 := 2 * x.1 19 nx.toNatClampNeg + x.1 19 (nx + 1).toNatClampNeg
def clO (x : XS) (nx : Int32) : Bool := inB nx 800 && (inB (nx + 1) 800 && inB (clF x nx) 20)
def pushO (w nx : Int32) (x : XS) : Option (Int32 × XS) :=
  if w = 15 then some (x.1 0 13, x) else
  if w = 16 then some (bcI (x.1 0 15), x) else
  if w = 17 then some ((mfol x).1 0 23, mfol x) else
  if w = 18 then some ((mlook (x.1 0 15) x).1 0 18, mlook (x.1 0 15) x) else
  if w = 19 then (if clO x nx then some (if (mlook (x.1 0 15) x).1 8 (clF x nx).toNatClampNeg ≤ 0 then 0 else 1, mlook (x.1 0 15) x) else none) else
  if w = 20 then (if inB nx 800 then some (if mhasB (x.1 0 15) (x.1 19 nx.toNatClampNeg) then 1 else 0, x) else none) else
  if w = 21 then (if clO x nx then (if clO x (nx + 2) then some (if mhasB ((mfol x).1 9 (clF x (nx + 2)).toNatClampNeg) (clF x nx) then 1 else 0, mfol x) else none) else none) else
  (if inB nx 800 then some (x.1 19 nx.toNatClampNeg, x) else none)
def bothF (w p q : Int32) : Int32 :=
  if w = 24 then p &&& q else if w = 25 then minI p q else if w = 26 then maxI p q else if w = 34 then p + q else if w = 35 then p - q else if w = 36 then p * q else if w = 37 then (if q = 0 then 0 else p / q) else
  if w = 38 then (if q ≤ p then 0 else 1) else if w = 39 then (if p ≤ q then 0 else 1) else if w = 42 then (if p = q then 1 else 0) else if w = 43 then (if q < p then 0 else 1) else if w = 44 then (if p < q then 0 else 1) else p ||| q
/-- the code from nx up to e is carried out; none where a place would lie beside its row -/
def coL (e : Int32) : Nat → Int32 → Int32 → XS → Option XS
  | 0, _, _, _ => none
  | n + 1, nx, tp, x => if e ≤ nx then some x else if inB nx 800 then
      (if takenF (x.1 19 nx.toNatClampNeg) < 0 then
        (if x.1 19 nx.toNatClampNeg = 33 then (if inB tp 400 then coL e n (nx + 1) tp (setI x 7 tp.toNatClampNeg (-(x.1 7 tp.toNatClampNeg))) else none)
         else if x.1 19 nx.toNatClampNeg = 23 then (if inB tp 400 then coL e n (nx + 1) tp (setI x 7 tp.toNatClampNeg (1 - x.1 7 tp.toNatClampNeg)) else none)
         else if inB (tp + Int32.ofInt (-1)) 400 then (if inB (tp + Int32.ofInt (-1) + 1) 400 then coL e n (nx + 1) (tp + Int32.ofInt (-1)) (setI x 7 (tp + Int32.ofInt (-1)).toNatClampNeg (bothF (x.1 19 nx.toNatClampNeg) (x.1 7 (tp + Int32.ofInt (-1)).toNatClampNeg) (x.1 7 (tp + Int32.ofInt (-1) + 1).toNatClampNeg))) else none) else none)
       else (if inB (tp + 1) 400 then
         (match pushO (x.1 19 nx.toNatClampNeg) (nx + 1) x with
          | none => none
          | some u => coL e n (nx + 1 + takenF (x.1 19 nx.toNatClampNeg)) (tp + 1) (setI u.2 7 (tp + 1).toNatClampNeg u.1)) else none)) else none
theorem push_MOK {w nx : Int32} {x : XS} {u : Int32 × XS} (h : pushO w nx x = some u) (hM : MOK x) : MOK u.2 := by
  unfold pushO at h
  repeat' split at h
  all_goals first | (cases h; done) | (cases h; with_reducible exact hM) | (cases h; with_reducible exact MOK_fol hM) | (cases h; with_reducible exact MOK_look hM)
theorem setI_MOK {x : XS} {q k : Nat} {v : Int32} (h : q ≠ 11 ∧ q ≠ 12 ∧ q ≠ 13 ∧ q ≠ 14) (hM : MOK x) : MOK (setI x q k v) := MOK_of (fun q' k' hq => by rw [rdq (by omega)]) hM

set_option maxHeartbeats 4000000 in
set_option maxRecDepth 100000 in
theorem c_X10_taken {g : Gx} {a : Nat → Nat} {x : XS} {lay : List Kd} {w : Int32} : Mx g yX10_taken cX10_taken 1 (some .int) 1 0 0 lay a x [.int w] (pr (some (.int (takenF w))) x) := by
  refine Mx_of (by decide +kernel) (Nat.le_of_ble_eq_true rfl) ?_
  intro k hk he hg
  subst hg

  refine xiload_n hk dX10_taken_0 rfl ?_
  by_cases hs1_15 : w = 15
  · refine xtableIn hk 88 dX10_taken_1 (by rw [hs1_15]; decide +kernel) (by rw [hs1_15]; decide +kernel) (off := 87) (by rw [hs1_15]; decide +kernel) (by decide) ?_
    refine xiconst (v := 0) hk dX10_taken_88 (by decide) ?_
    refine xiret hk he dX10_taken_89 ⟨by decide, by decide⟩ ?_
    exact ⟨by simp [takenF, *], rfl⟩
  by_cases hs1_16 : w = 16
  · refine xtableIn hk 88 dX10_taken_1 (by rw [hs1_16]; decide +kernel) (by rw [hs1_16]; decide +kernel) (off := 87) (by rw [hs1_16]; decide +kernel) (by decide) ?_
    refine xiconst (v := 0) hk dX10_taken_88 (by decide) ?_
    refine xiret hk he dX10_taken_89 ⟨by decide, by decide⟩ ?_
    exact ⟨by simp [takenF, *], rfl⟩
  by_cases hs1_17 : w = 17
  · refine xtableIn hk 88 dX10_taken_1 (by rw [hs1_17]; decide +kernel) (by rw [hs1_17]; decide +kernel) (off := 87) (by rw [hs1_17]; decide +kernel) (by decide) ?_
    refine xiconst (v := 0) hk dX10_taken_88 (by decide) ?_
    refine xiret hk he dX10_taken_89 ⟨by decide, by decide⟩ ?_
    exact ⟨by simp [takenF, *], rfl⟩
  by_cases hs1_18 : w = 18
  · refine xtableIn hk 88 dX10_taken_1 (by rw [hs1_18]; decide +kernel) (by rw [hs1_18]; decide +kernel) (off := 87) (by rw [hs1_18]; decide +kernel) (by decide) ?_
    refine xiconst (v := 0) hk dX10_taken_88 (by decide) ?_
    refine xiret hk he dX10_taken_89 ⟨by decide, by decide⟩ ?_
    exact ⟨by simp [takenF, *], rfl⟩
  by_cases hs1_19 : w = 19
  · refine xtableIn hk 92 dX10_taken_1 (by rw [hs1_19]; decide +kernel) (by rw [hs1_19]; decide +kernel) (off := 91) (by rw [hs1_19]; decide +kernel) (by decide) ?_
    refine xiconst (v := 2) hk dX10_taken_92 (by decide) ?_
    refine xiret hk he dX10_taken_93 ⟨by decide, by decide⟩ ?_
    exact ⟨by simp [takenF, *], rfl⟩
  by_cases hs1_20 : w = 20
  · refine xtableIn hk 90 dX10_taken_1 (by rw [hs1_20]; decide +kernel) (by rw [hs1_20]; decide +kernel) (off := 89) (by rw [hs1_20]; decide +kernel) (by decide) ?_
    refine xiconst (v := 1) hk dX10_taken_90 (by decide) ?_
    refine xiret hk he dX10_taken_91 ⟨by decide, by decide⟩ ?_
    exact ⟨by simp [takenF, *], rfl⟩
  by_cases hs1_21 : w = 21
  · refine xtableIn hk 94 dX10_taken_1 (by rw [hs1_21]; decide +kernel) (by rw [hs1_21]; decide +kernel) (off := 93) (by rw [hs1_21]; decide +kernel) (by decide) ?_
    refine xiconst (v := 4) hk dX10_taken_94 (by decide) ?_
    refine xiret hk he dX10_taken_95 ⟨by decide, by decide⟩ ?_
    exact ⟨by simp [takenF, *], rfl⟩
  by_cases hs1_32 : w = 32
  · refine xtableIn hk 90 dX10_taken_1 (by rw [hs1_32]; decide +kernel) (by rw [hs1_32]; decide +kernel) (off := 89) (by rw [hs1_32]; decide +kernel) (by decide) ?_
    refine xiconst (v := 1) hk dX10_taken_90 (by decide) ?_
    refine xiret hk he dX10_taken_91 ⟨by decide, by decide⟩ ?_
    exact ⟨by simp [takenF, *], rfl⟩
  by_cases ht1 : (Int32.toInt w) < 15 ∨ 32 < (Int32.toInt w)
  · refine xtableOut hk 96 dX10_taken_1 ht1 (by decide) ?_
    refine xiconst (v := (-1)) hk dX10_taken_96 (by decide) ?_
    refine xiret hk he dX10_taken_97 ⟨by decide, by decide⟩ ?_
    exact ⟨by simp [takenF, *], rfl⟩
  refine xtableIn hk 96 dX10_taken_1 (fun z => ht1 (Or.inl z)) (fun z => ht1 (Or.inr z)) (off := 95) (tsw (n := 18) ht1 (by decide) [15, 16, 17, 18, 19, 20, 21, 32] (List.forall_mem_cons.mpr ⟨lv_neT hs1_15 (by decide), (List.forall_mem_cons.mpr ⟨lv_neT hs1_16 (by decide), (List.forall_mem_cons.mpr ⟨lv_neT hs1_17 (by decide), (List.forall_mem_cons.mpr ⟨lv_neT hs1_18 (by decide), (List.forall_mem_cons.mpr ⟨lv_neT hs1_19 (by decide), (List.forall_mem_cons.mpr ⟨lv_neT hs1_20 (by decide), (List.forall_mem_cons.mpr ⟨lv_neT hs1_21 (by decide), (List.forall_mem_cons.mpr ⟨lv_neT hs1_32 (by decide), (fun _ h => absurd h List.not_mem_nil)⟩)⟩)⟩)⟩)⟩)⟩)⟩)⟩) (by decide +kernel)) (by decide) ?_
  refine xiconst (v := (-1)) hk dX10_taken_96 (by decide) ?_
  refine xiret hk he dX10_taken_97 ⟨by decide, by decide⟩ ?_
  exact ⟨by simp [takenF, *], rfl⟩
set_option maxHeartbeats 4000000 in
set_option maxRecDepth 100000 in
theorem c_X10_both {g : Gx} {a : Nat → Nat} {x : XS} {lay : List Kd} {w p q : Int32} : Mx g yX10_both cX10_both 3 (some .int) 1 0 0 lay a x [.int w, .int p, .int q] (pr (some (.int (bothF w p q))) x) := by
  refine Mx_of (by decide +kernel) (Nat.le_of_ble_eq_true rfl) ?_
  intro k hk he hg
  subst hg

  refine xiload_n hk dX10_both_0 rfl ?_
  by_cases hs1_24 : w = 24
  · refine xtableIn hk 191 dX10_both_1 (by rw [hs1_24]; decide +kernel) (by rw [hs1_24]; decide +kernel) (off := 190) (by rw [hs1_24]; decide +kernel) (by decide) ?_
    refine xiload_n hk dX10_both_191 rfl ?_
    refine xiload_n hk dX10_both_192 rfl ?_
    refine xiand hk dX10_both_193 ?_
    refine xiret hk he dX10_both_194 ⟨by decide, by decide⟩ ?_
    exact ⟨by simp [bothF, *], rfl⟩
  by_cases hs1_25 : w = 25
  · refine xtableIn hk 124 dX10_both_1 (by rw [hs1_25]; decide +kernel) (by rw [hs1_25]; decide +kernel) (off := 123) (by rw [hs1_25]; decide +kernel) (by decide) ?_
    refine xiload_n hk dX10_both_124 rfl ?_
    refine xiload_n hk dX10_both_125 rfl ?_
    refine xmmin hk dX10_both_126 kX10_192 mw_min (by decide) ⟨by decide, by decide⟩ (Nat.le_of_ble_eq_true rfl) ?_
    refine xiret hk he dX10_both_129 ⟨by decide, by decide⟩ ?_
    exact ⟨by simp [bothF, *], rfl⟩
  by_cases hs1_26 : w = 26
  · refine xtableIn hk 130 dX10_both_1 (by rw [hs1_26]; decide +kernel) (by rw [hs1_26]; decide +kernel) (off := 129) (by rw [hs1_26]; decide +kernel) (by decide) ?_
    refine xiload_n hk dX10_both_130 rfl ?_
    refine xiload_n hk dX10_both_131 rfl ?_
    refine xmmax hk dX10_both_132 kX10_197 mw_max (by decide) ⟨by decide, by decide⟩ (Nat.le_of_ble_eq_true rfl) ?_
    refine xiret hk he dX10_both_135 ⟨by decide, by decide⟩ ?_
    exact ⟨by simp [bothF, *], rfl⟩
  by_cases hs1_34 : w = 34
  · refine xtableIn hk 100 dX10_both_1 (by rw [hs1_34]; decide +kernel) (by rw [hs1_34]; decide +kernel) (off := 99) (by rw [hs1_34]; decide +kernel) (by decide) ?_
    refine xiload_n hk dX10_both_100 rfl ?_
    refine xiload_n hk dX10_both_101 rfl ?_
    refine xiadd hk dX10_both_102 ?_
    refine xiret hk he dX10_both_103 ⟨by decide, by decide⟩ ?_
    exact ⟨by simp [bothF, *], rfl⟩
  by_cases hs1_35 : w = 35
  · refine xtableIn hk 104 dX10_both_1 (by rw [hs1_35]; decide +kernel) (by rw [hs1_35]; decide +kernel) (off := 103) (by rw [hs1_35]; decide +kernel) (by decide) ?_
    refine xiload_n hk dX10_both_104 rfl ?_
    refine xiload_n hk dX10_both_105 rfl ?_
    refine xisub hk dX10_both_106 ?_
    refine xiret hk he dX10_both_107 ⟨by decide, by decide⟩ ?_
    exact ⟨by simp [bothF, *], rfl⟩
  by_cases hs1_36 : w = 36
  · refine xtableIn hk 108 dX10_both_1 (by rw [hs1_36]; decide +kernel) (by rw [hs1_36]; decide +kernel) (off := 107) (by rw [hs1_36]; decide +kernel) (by decide) ?_
    refine xiload_n hk dX10_both_108 rfl ?_
    refine xiload_n hk dX10_both_109 rfl ?_
    refine ximul hk dX10_both_110 ?_
    refine xiret hk he dX10_both_111 ⟨by decide, by decide⟩ ?_
    exact ⟨by simp [bothF, *], rfl⟩
  by_cases hs1_37 : w = 37
  · refine xtableIn hk 112 dX10_both_1 (by rw [hs1_37]; decide +kernel) (by rw [hs1_37]; decide +kernel) (off := 111) (by rw [hs1_37]; decide +kernel) (by decide) ?_
    refine xiload_n hk dX10_both_112 rfl ?_
    refine xif_ne hk 120 dX10_both_113 (by decide) (fun h113 => ?_) (fun h113 => ?_)
    · refine xiload_n hk dX10_both_120 rfl ?_
      refine xiload_n hk dX10_both_121 rfl ?_
      refine xidiv hk dX10_both_122 h113 ?_
      refine xiret hk he dX10_both_123 ⟨by decide, by decide⟩ ?_
      exact ⟨by simp [bothF, *], rfl⟩
    · refine xiconst (v := 0) hk dX10_both_116 (by decide) ?_
      refine xgoto hk 123 dX10_both_117 (by decide) ?_
      refine xiret hk he dX10_both_123 ⟨by decide, by decide⟩ ?_
      exact ⟨by simp [bothF, *], rfl⟩
  by_cases hs1_38 : w = 38
  · refine xtableIn hk 136 dX10_both_1 (by rw [hs1_38]; decide +kernel) (by rw [hs1_38]; decide +kernel) (off := 135) (by rw [hs1_38]; decide +kernel) (by decide) ?_
    refine xiload_n hk dX10_both_136 rfl ?_
    refine xiload_n hk dX10_both_137 rfl ?_
    refine xicmp_ge hk 145 dX10_both_138 (by decide) (fun h138 => ?_) (fun h138 => ?_)
    · refine xiconst (v := 0) hk dX10_both_145 (by decide) ?_
      refine xiret hk he dX10_both_146 ⟨by decide, by decide⟩ ?_
      exact ⟨by simp [bothF, *], rfl⟩
    · refine xiconst (v := 1) hk dX10_both_141 (by decide) ?_
      refine xgoto hk 146 dX10_both_142 (by decide) ?_
      refine xiret hk he dX10_both_146 ⟨by decide, by decide⟩ ?_
      exact ⟨by simp [bothF, *], rfl⟩
  by_cases hs1_39 : w = 39
  · refine xtableIn hk 147 dX10_both_1 (by rw [hs1_39]; decide +kernel) (by rw [hs1_39]; decide +kernel) (off := 146) (by rw [hs1_39]; decide +kernel) (by decide) ?_
    refine xiload_n hk dX10_both_147 rfl ?_
    refine xiload_n hk dX10_both_148 rfl ?_
    refine xicmp_le hk 156 dX10_both_149 (by decide) (fun h149 => ?_) (fun h149 => ?_)
    · refine xiconst (v := 0) hk dX10_both_156 (by decide) ?_
      refine xiret hk he dX10_both_157 ⟨by decide, by decide⟩ ?_
      exact ⟨by simp [bothF, *], rfl⟩
    · refine xiconst (v := 1) hk dX10_both_152 (by decide) ?_
      refine xgoto hk 157 dX10_both_153 (by decide) ?_
      refine xiret hk he dX10_both_157 ⟨by decide, by decide⟩ ?_
      exact ⟨by simp [bothF, *], rfl⟩
  by_cases hs1_42 : w = 42
  · refine xtableIn hk 158 dX10_both_1 (by rw [hs1_42]; decide +kernel) (by rw [hs1_42]; decide +kernel) (off := 157) (by rw [hs1_42]; decide +kernel) (by decide) ?_
    refine xiload_n hk dX10_both_158 rfl ?_
    refine xiload_n hk dX10_both_159 rfl ?_
    refine xicmp_ne hk 167 dX10_both_160 (by decide) (fun h160 => ?_) (fun h160 => ?_)
    · refine xiconst (v := 0) hk dX10_both_167 (by decide) ?_
      refine xiret hk he dX10_both_168 ⟨by decide, by decide⟩ ?_
      exact ⟨by simp [bothF, *], rfl⟩
    · refine xiconst (v := 1) hk dX10_both_163 (by decide) ?_
      refine xgoto hk 168 dX10_both_164 (by decide) ?_
      refine xiret hk he dX10_both_168 ⟨by decide, by decide⟩ ?_
      exact ⟨by simp [bothF, *], rfl⟩
  by_cases hs1_43 : w = 43
  · refine xtableIn hk 169 dX10_both_1 (by rw [hs1_43]; decide +kernel) (by rw [hs1_43]; decide +kernel) (off := 168) (by rw [hs1_43]; decide +kernel) (by decide) ?_
    refine xiload_n hk dX10_both_169 rfl ?_
    refine xiload_n hk dX10_both_170 rfl ?_
    refine xicmp_gt hk 178 dX10_both_171 (by decide) (fun h171 => ?_) (fun h171 => ?_)
    · refine xiconst (v := 0) hk dX10_both_178 (by decide) ?_
      refine xiret hk he dX10_both_179 ⟨by decide, by decide⟩ ?_
      exact ⟨by simp [bothF, *], rfl⟩
    · refine xiconst (v := 1) hk dX10_both_174 (by decide) ?_
      refine xgoto hk 179 dX10_both_175 (by decide) ?_
      refine xiret hk he dX10_both_179 ⟨by decide, by decide⟩ ?_
      exact ⟨by simp [bothF, *], rfl⟩
  by_cases hs1_44 : w = 44
  · refine xtableIn hk 180 dX10_both_1 (by rw [hs1_44]; decide +kernel) (by rw [hs1_44]; decide +kernel) (off := 179) (by rw [hs1_44]; decide +kernel) (by decide) ?_
    refine xiload_n hk dX10_both_180 rfl ?_
    refine xiload_n hk dX10_both_181 rfl ?_
    refine xicmp_lt hk 189 dX10_both_182 (by decide) (fun h182 => ?_) (fun h182 => ?_)
    · refine xiconst (v := 0) hk dX10_both_189 (by decide) ?_
      refine xiret hk he dX10_both_190 ⟨by decide, by decide⟩ ?_
      exact ⟨by simp [bothF, *], rfl⟩
    · refine xiconst (v := 1) hk dX10_both_185 (by decide) ?_
      refine xgoto hk 190 dX10_both_186 (by decide) ?_
      refine xiret hk he dX10_both_190 ⟨by decide, by decide⟩ ?_
      exact ⟨by simp [bothF, *], rfl⟩
  by_cases ht1 : (Int32.toInt w) < 24 ∨ 44 < (Int32.toInt w)
  · refine xtableOut hk 195 dX10_both_1 ht1 (by decide) ?_
    refine xiload_n hk dX10_both_195 rfl ?_
    refine xiload_n hk dX10_both_196 rfl ?_
    refine xior hk dX10_both_197 ?_
    refine xiret hk he dX10_both_198 ⟨by decide, by decide⟩ ?_
    exact ⟨by simp [bothF, *], rfl⟩
  refine xtableIn hk 195 dX10_both_1 (fun z => ht1 (Or.inl z)) (fun z => ht1 (Or.inr z)) (off := 194) (tsw (n := 21) ht1 (by decide) [24, 25, 26, 34, 35, 36, 37, 38, 39, 42, 43, 44] (List.forall_mem_cons.mpr ⟨lv_neT hs1_24 (by decide), (List.forall_mem_cons.mpr ⟨lv_neT hs1_25 (by decide), (List.forall_mem_cons.mpr ⟨lv_neT hs1_26 (by decide), (List.forall_mem_cons.mpr ⟨lv_neT hs1_34 (by decide), (List.forall_mem_cons.mpr ⟨lv_neT hs1_35 (by decide), (List.forall_mem_cons.mpr ⟨lv_neT hs1_36 (by decide), (List.forall_mem_cons.mpr ⟨lv_neT hs1_37 (by decide), (List.forall_mem_cons.mpr ⟨lv_neT hs1_38 (by decide), (List.forall_mem_cons.mpr ⟨lv_neT hs1_39 (by decide), (List.forall_mem_cons.mpr ⟨lv_neT hs1_42 (by decide), (List.forall_mem_cons.mpr ⟨lv_neT hs1_43 (by decide), (List.forall_mem_cons.mpr ⟨lv_neT hs1_44 (by decide), (fun _ h => absurd h List.not_mem_nil)⟩)⟩)⟩)⟩)⟩)⟩)⟩)⟩)⟩)⟩)⟩)⟩) (by decide +kernel)) (by decide) ?_
  refine xiload_n hk dX10_both_195 rfl ?_
  refine xiload_n hk dX10_both_196 rfl ?_
  refine xior hk dX10_both_197 ?_
  refine xiret hk he dX10_both_198 ⟨by decide, by decide⟩ ?_
  exact ⟨by simp [bothF, *], rfl⟩
set_option maxHeartbeats 4000000 in
set_option maxRecDepth 100000 in
theorem c_X10_claimAt {g : Gx} {a : Nat → Nat} {x : XS} {nx : Int32} (h : clO x nx = true) : Mx g yX10_claimAt cX10_claimAt 2 (some .int) 1 0 0 LM a x [.ref (a 0), .int nx] (pr (some (.int (clF x nx))) x) := by
  refine Mx_of (by decide +kernel) (Nat.le_of_ble_eq_true rfl) ?_
  intro k hk he hg
  subst hg

  simp only [clO, Bool.and_eq_true] at h
  refine xiconst (v := 2) hk dX10_claimAt_0 (by decide) ?_
  refine xaload_n hk dX10_claimAt_1 rfl ?_
  refine xgetR (ci := 10) (f := 11) hk dX10_claimAt_2 ⟨rfl, by decide, _, rfl, rfl⟩ kX10_35 ?_
  refine xgetNR (ci := 9) (f := 11) hk dX10_claimAt_5 ⟨rfl, by decide, _, rfl, rfl⟩ kX10_166 ?_
  refine xiload_n hk dX10_claimAt_8 rfl ?_
  refine xiald hk dX10_claimAt_9 rfl (inB_v h.1) ?_
  refine ximul hk dX10_claimAt_10 ?_
  refine xaload_n hk dX10_claimAt_11 rfl ?_
  refine xgetR (ci := 10) (f := 11) hk dX10_claimAt_12 ⟨rfl, by decide, _, rfl, rfl⟩ kX10_35 ?_
  refine xgetNR (ci := 9) (f := 11) hk dX10_claimAt_15 ⟨rfl, by decide, _, rfl, rfl⟩ kX10_166 ?_
  refine xiload_n hk dX10_claimAt_18 rfl ?_
  refine xiconst (v := 1) hk dX10_claimAt_19 (by decide) ?_
  refine xiadd hk dX10_claimAt_20 ?_
  refine xiald hk dX10_claimAt_21 rfl (inB_v h.2.1) ?_
  refine xiadd hk dX10_claimAt_22 ?_
  refine xiret hk he dX10_claimAt_23 ⟨by decide, by decide⟩ ?_
  exact ⟨rfl, rfl⟩
set_option maxHeartbeats 4000000 in
set_option maxRecDepth 100000 in
theorem c_X10_pushed {g : Gx} {a : Nat → Nat} {x : XS} {w nx v : Int32} {y : XS} (hM : MOK x) (hp : pushO w nx x = some (v, y)) : Mx g yX10_pushed cX10_pushed 3 (some .int) 7 0 0 LM a x [.ref (a 0), .int w, .int nx] (pr (some (.int v)) y) := by
  refine Mx_of (by decide +kernel) (Nat.le_of_ble_eq_true rfl) ?_
  intro k hk he hg
  subst hg

  refine xiload_n hk dX10_pushed_0 rfl ?_
  by_cases hs1_15 : w = 15
  · refine xtableIn hk 44 dX10_pushed_1 (by rw [hs1_15]; decide +kernel) (by rw [hs1_15]; decide +kernel) (off := 43) (by rw [hs1_15]; decide +kernel) (by decide) ?_
    rw [pushO, if_pos hs1_15] at hp
    simp only [Option.some.injEq, Prod.mk.injEq] at hp
    obtain ⟨rfl, rfl⟩ := hp
    refine xaload_n hk dX10_pushed_44 rfl ?_
    refine xgetI (ci := 10) (f := 13) hk dX10_pushed_45 ⟨rfl, by decide, _, rfl, rfl⟩ kX10_163 ?_
    refine xiret hk he dX10_pushed_48 ⟨by decide, by decide⟩ ?_
    exact ⟨by first | rfl | simp [*], rfl⟩
  by_cases hs1_16 : w = 16
  · refine xtableIn hk 49 dX10_pushed_1 (by rw [hs1_16]; decide +kernel) (by rw [hs1_16]; decide +kernel) (off := 48) (by rw [hs1_16]; decide +kernel) (by decide) ?_
    rw [pushO, if_neg hs1_15, if_pos hs1_16] at hp
    simp only [Option.some.injEq, Prod.mk.injEq] at hp
    obtain ⟨rfl, rfl⟩ := hp
    refine xaload_n hk dX10_pushed_49 rfl ?_
    refine xgetI (ci := 10) (f := 15) hk dX10_pushed_50 ⟨rfl, by decide, _, rfl, rfl⟩ kX10_115 ?_
    refine xcallS hk c_J6_bitCount_0f7a4 bJ6_bitCount_0f7a4 kX10_106 dX10_pushed_53 rfl rfl (by decide) ⟨by decide, by decide⟩ (Nat.le_of_ble_eq_true rfl) (det ?_)
    refine xiret hk he dX10_pushed_56 ⟨by decide, by decide⟩ ?_
    exact ⟨by first | rfl | simp [*], rfl⟩
  by_cases hs1_17 : w = 17
  · refine xtableIn hk 57 dX10_pushed_1 (by rw [hs1_17]; decide +kernel) (by rw [hs1_17]; decide +kernel) (off := 56) (by rw [hs1_17]; decide +kernel) (by decide) ?_
    rw [pushO, if_neg hs1_15, if_neg hs1_16, if_pos hs1_17] at hp
    simp only [Option.some.injEq, Prod.mk.injEq] at hp
    obtain ⟨rfl, rfl⟩ := hp
    refine xaload_n hk dX10_pushed_57 rfl ?_
    refine xcallV hk (c_X10_partsNow hM) bX10_partsNow kX10_179 dX10_pushed_58 rfl ⟨_, _, _, _, rfl, rfl⟩ rfl (by decide) ⟨by decide, by decide⟩ (Nat.le_of_ble_eq_true rfl) (det ?_)
    refine xiret hk he dX10_pushed_61 ⟨by decide, by decide⟩ ?_
    exact ⟨by first | rfl | simp [*], rfl⟩
  by_cases hs1_18 : w = 18
  · refine xtableIn hk 62 dX10_pushed_1 (by rw [hs1_18]; decide +kernel) (by rw [hs1_18]; decide +kernel) (off := 61) (by rw [hs1_18]; decide +kernel) (by decide) ?_
    rw [pushO, if_neg hs1_15, if_neg hs1_16, if_neg hs1_17, if_pos hs1_18] at hp
    simp only [Option.some.injEq, Prod.mk.injEq] at hp
    obtain ⟨rfl, rfl⟩ := hp
    refine xaload_n hk dX10_pushed_62 rfl ?_
    refine xaload_n hk dX10_pushed_63 rfl ?_
    refine xgetI (ci := 10) (f := 15) hk dX10_pushed_64 ⟨rfl, by decide, _, rfl, rfl⟩ kX10_115 ?_
    refine xcallV hk (c_X10_peaces hM) bX10_peaces kX10_182 dX10_pushed_67 rfl ⟨_, _, _, _, rfl, rfl⟩ rfl (by decide) ⟨by decide, by decide⟩ (Nat.le_of_ble_eq_true rfl) (det ?_)
    refine xiret hk he dX10_pushed_70 ⟨by decide, by decide⟩ ?_
    exact ⟨by first | rfl | simp [*], rfl⟩
  by_cases hs1_19 : w = 19
  · refine xtableIn hk 96 dX10_pushed_1 (by rw [hs1_19]; decide +kernel) (by rw [hs1_19]; decide +kernel) (off := 95) (by rw [hs1_19]; decide +kernel) (by decide) ?_
    rw [pushO, if_neg hs1_15, if_neg hs1_16, if_neg hs1_17, if_neg hs1_18, if_pos hs1_19] at hp
    split at hp
    rotate_left
    · exact absurd hp (by simp)
    rename_i hcl
    simp only [Option.some.injEq, Prod.mk.injEq] at hp
    obtain ⟨rfl, rfl⟩ := hp
    obtain ⟨c, hc, hce⟩ := vp_in_of (inB_v (by simp only [clO, Bool.and_eq_true] at hcl; exact hcl.2.2)) (by decide)
    refine xaload_n hk dX10_pushed_96 rfl ?_
    refine xaload_n hk dX10_pushed_97 rfl ?_
    refine xiload_n hk dX10_pushed_98 rfl ?_
    refine xcallV hk (c_X10_claimAt hcl) bX10_claimAt kX10_184 dX10_pushed_99 rfl ⟨_, _, _, _, rfl, rfl⟩ rfl (by decide) ⟨by decide, by decide⟩ (Nat.le_of_ble_eq_true rfl) (det ?_)
    rw [hce]
    refine xcallV hk (c_X10_with hM hc) bX10_with kX10_187 dX10_pushed_102 rfl ⟨_, _, _, _, rfl, rfl⟩ rfl (by decide) ⟨by decide, by decide⟩ (Nat.le_of_ble_eq_true rfl) (det ?_)
    refine xif_le hk 112 dX10_pushed_105 (by decide) (fun h105 => ?_) (fun h105 => ?_)
    · refine xiconst (v := 0) hk dX10_pushed_112 (by decide) ?_
      refine xiret hk he dX10_pushed_113 ⟨by decide, by decide⟩ ?_
      exact ⟨by rw [hce, nI_clamp (by omega)]; simp only [h105, if_true, if_false], rfl⟩
    · refine xiconst (v := 1) hk dX10_pushed_108 (by decide) ?_
      refine xgoto hk 113 dX10_pushed_109 (by decide) ?_
      refine xiret hk he dX10_pushed_113 ⟨by decide, by decide⟩ ?_
      exact ⟨by rw [hce, nI_clamp (by omega)]; simp only [h105, if_true, if_false], rfl⟩
  by_cases hs1_20 : w = 20
  · refine xtableIn hk 71 dX10_pushed_1 (by rw [hs1_20]; decide +kernel) (by rw [hs1_20]; decide +kernel) (off := 70) (by rw [hs1_20]; decide +kernel) (by decide) ?_
    rw [pushO, if_neg hs1_15, if_neg hs1_16, if_neg hs1_17, if_neg hs1_18, if_neg hs1_19, if_pos hs1_20] at hp
    split at hp
    rotate_left
    · exact absurd hp (by simp)
    rename_i hin
    simp only [Option.some.injEq, Prod.mk.injEq] at hp
    obtain ⟨rfl, rfl⟩ := hp
    refine xaload_n hk dX10_pushed_71 rfl ?_
    refine xgetI (ci := 10) (f := 15) hk dX10_pushed_72 ⟨rfl, by decide, _, rfl, rfl⟩ kX10_115 ?_
    refine xaload_n hk dX10_pushed_75 rfl ?_
    refine xgetR (ci := 10) (f := 11) hk dX10_pushed_76 ⟨rfl, by decide, _, rfl, rfl⟩ kX10_35 ?_
    refine xgetNR (ci := 9) (f := 11) hk dX10_pushed_79 ⟨rfl, by decide, _, rfl, rfl⟩ kX10_166 ?_
    refine xiload_n hk dX10_pushed_82 rfl ?_
    refine xiald hk dX10_pushed_83 rfl (inB_v hin) ?_
    refine xcallS hk c_X10_has bX10_has kX10_74 dX10_pushed_84 rfl rfl (by decide) ⟨by decide, by decide⟩ (Nat.le_of_ble_eq_true rfl) (det ?_)
    refine xif_eq hk 94 dX10_pushed_87 (by decide) (fun h87 => ?_) (fun h87 => ?_)
    · rw [b2i_0] at h87
      refine xiconst (v := 0) hk dX10_pushed_94 (by decide) ?_
      refine xiret hk he dX10_pushed_95 ⟨by decide, by decide⟩ ?_
      exact ⟨by simp only [h87, if_true, if_false, Bool.false_eq_true], rfl⟩
    · rw [b2i_t] at h87
      refine xiconst (v := 1) hk dX10_pushed_90 (by decide) ?_
      refine xgoto hk 95 dX10_pushed_91 (by decide) ?_
      refine xiret hk he dX10_pushed_95 ⟨by decide, by decide⟩ ?_
      exact ⟨by simp only [h87, if_true, if_false, Bool.false_eq_true], rfl⟩
  by_cases hs1_21 : w = 21
  · refine xtableIn hk 114 dX10_pushed_1 (by rw [hs1_21]; decide +kernel) (by rw [hs1_21]; decide +kernel) (off := 113) (by rw [hs1_21]; decide +kernel) (by decide) ?_
    rw [pushO, if_neg hs1_15, if_neg hs1_16, if_neg hs1_17, if_neg hs1_18, if_neg hs1_19, if_neg hs1_20, if_pos hs1_21] at hp
    split at hp
    rotate_left
    · exact absurd hp (by simp)
    rename_i hcl
    split at hp
    rotate_left
    · exact absurd hp (by simp)
    rename_i hcl2
    simp only [Option.some.injEq, Prod.mk.injEq] at hp
    obtain ⟨rfl, rfl⟩ := hp
    obtain ⟨c, hc, hce⟩ := vp_in_of (inB_v (by simp only [clO, Bool.and_eq_true] at hcl; exact hcl.2.2)) (by decide)
    obtain ⟨d, hd, hde⟩ := vp_in_of (inB_v (by simp only [clO, Bool.and_eq_true] at hcl2; exact hcl2.2.2)) (by decide)
    refine xaload_n hk dX10_pushed_114 rfl ?_
    refine xaload_n hk dX10_pushed_115 rfl ?_
    refine xiload_n hk dX10_pushed_116 rfl ?_
    refine xcallV hk (c_X10_claimAt hcl) bX10_claimAt kX10_184 dX10_pushed_117 rfl ⟨_, _, _, _, rfl, rfl⟩ rfl (by decide) ⟨by decide, by decide⟩ (Nat.le_of_ble_eq_true rfl) (det ?_)
    rw [hce]
    refine xaload_n hk dX10_pushed_120 rfl ?_
    refine xiload_n hk dX10_pushed_121 rfl ?_
    refine xiconst (v := 2) hk dX10_pushed_122 (by decide) ?_
    refine xiadd hk dX10_pushed_123 ?_
    refine xcallV hk (c_X10_claimAt hcl2) bX10_claimAt kX10_184 dX10_pushed_124 rfl ⟨_, _, _, _, rfl, rfl⟩ rfl (by decide) ⟨by decide, by decide⟩ (Nat.le_of_ble_eq_true rfl) (det ?_)
    rw [hde]
    refine xcallV hk (c_X10_isFrom hM hc hd) bX10_isFrom kX10_189 dX10_pushed_127 rfl ⟨_, _, _, _, rfl, rfl⟩ rfl (by decide) ⟨by decide, by decide⟩ (Nat.le_of_ble_eq_true rfl) (det ?_)
    refine xif_eq hk 137 dX10_pushed_130 (by decide) (fun h130 => ?_) (fun h130 => ?_)
    · rw [b2i_0] at h130
      refine xiconst (v := 0) hk dX10_pushed_137 (by decide) ?_
      refine xiret hk he dX10_pushed_138 ⟨by decide, by decide⟩ ?_
      exact ⟨by rw [hce, hde, nI_clamp (by omega)]; simp only [h130, if_true, if_false, Bool.false_eq_true], rfl⟩
    · rw [b2i_t] at h130
      refine xiconst (v := 1) hk dX10_pushed_133 (by decide) ?_
      refine xgoto hk 138 dX10_pushed_134 (by decide) ?_
      refine xiret hk he dX10_pushed_138 ⟨by decide, by decide⟩ ?_
      exact ⟨by rw [hce, hde, nI_clamp (by omega)]; simp only [h130, if_true, if_false, Bool.false_eq_true], rfl⟩
  by_cases ht1 : (Int32.toInt w) < 15 ∨ 21 < (Int32.toInt w)
  · refine xtableOut hk 139 dX10_pushed_1 ht1 (by decide) ?_
    rw [pushO, if_neg hs1_15, if_neg hs1_16, if_neg hs1_17, if_neg hs1_18, if_neg hs1_19, if_neg hs1_20, if_neg hs1_21] at hp
    split at hp
    rotate_left
    · exact absurd hp (by simp)
    rename_i hin
    simp only [Option.some.injEq, Prod.mk.injEq] at hp
    obtain ⟨rfl, rfl⟩ := hp
    refine xaload_n hk dX10_pushed_139 rfl ?_
    refine xgetR (ci := 10) (f := 11) hk dX10_pushed_140 ⟨rfl, by decide, _, rfl, rfl⟩ kX10_35 ?_
    refine xgetNR (ci := 9) (f := 11) hk dX10_pushed_143 ⟨rfl, by decide, _, rfl, rfl⟩ kX10_166 ?_
    refine xiload_n hk dX10_pushed_146 rfl ?_
    refine xiald hk dX10_pushed_147 rfl (inB_v hin) ?_
    refine xiret hk he dX10_pushed_148 ⟨by decide, by decide⟩ ?_
    exact ⟨by first | rfl | simp [*], rfl⟩
  refine xtableIn hk 139 dX10_pushed_1 (fun z => ht1 (Or.inl z)) (fun z => ht1 (Or.inr z)) (off := 138) (tsw (n := 7) ht1 (by decide) [15, 16, 17, 18, 19, 20, 21] (List.forall_mem_cons.mpr ⟨lv_neT hs1_15 (by decide), (List.forall_mem_cons.mpr ⟨lv_neT hs1_16 (by decide), (List.forall_mem_cons.mpr ⟨lv_neT hs1_17 (by decide), (List.forall_mem_cons.mpr ⟨lv_neT hs1_18 (by decide), (List.forall_mem_cons.mpr ⟨lv_neT hs1_19 (by decide), (List.forall_mem_cons.mpr ⟨lv_neT hs1_20 (by decide), (List.forall_mem_cons.mpr ⟨lv_neT hs1_21 (by decide), (fun _ h => absurd h List.not_mem_nil)⟩)⟩)⟩)⟩)⟩)⟩)⟩) (by decide +kernel)) (by decide) ?_
  rw [pushO, if_neg hs1_15, if_neg hs1_16, if_neg hs1_17, if_neg hs1_18, if_neg hs1_19, if_neg hs1_20, if_neg hs1_21] at hp
  split at hp
  rotate_left
  · exact absurd hp (by simp)
  rename_i hin
  simp only [Option.some.injEq, Prod.mk.injEq] at hp
  obtain ⟨rfl, rfl⟩ := hp
  refine xaload_n hk dX10_pushed_139 rfl ?_
  refine xgetR (ci := 10) (f := 11) hk dX10_pushed_140 ⟨rfl, by decide, _, rfl, rfl⟩ kX10_35 ?_
  refine xgetNR (ci := 9) (f := 11) hk dX10_pushed_143 ⟨rfl, by decide, _, rfl, rfl⟩ kX10_166 ?_
  refine xiload_n hk dX10_pushed_146 rfl ?_
  refine xiald hk dX10_pushed_147 rfl (inB_v hin) ?_
  refine xiret hk he dX10_pushed_148 ⟨by decide, by decide⟩ ?_
  exact ⟨by first | rfl | simp [*], rfl⟩
