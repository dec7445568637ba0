theorem kX10_54 : Cond.fieldLink RX10 54 "FeudBookModel" "reach" "[I" ∈ GW := gw_mem 1215 (by decide +kernel) (by decide +kernel)
theorem kX10_124 : Cond.methodLink RX10 124 yX10_areOne ∈ GW := gw_mem 1642 (by decide +kernel) (by decide +kernel)
theorem bX10_areOne : CBv yX10_areOne cX10_areOne 3 (some .boolean) 2 := ⟨⟨gw_mem 1645 (by decide +kernel) (by decide +kernel), gw_mem 14 (by decide +kernel) (by decide +kernel), by decide +kernel, by decide⟩, gw_mem 1644 (by decide +kernel) (by decide +kernel), gw_sel 97 (by decide +kernel) (by decide +kernel)⟩
theorem kX10_118 : Cond.fieldLink RX10 118 "FeudBookModel" "parts" "I" ∈ GW := gw_mem 1214 (by decide +kernel) (by decide +kernel)
theorem kX10_121 : Cond.methodLink RX10 121 yX10_smallest ∈ GW := gw_mem 1638 (by decide +kernel) (by decide +kernel)
theorem bX10_smallest : CBv yX10_smallest cX10_smallest 3 (some .int) 1 := ⟨⟨gw_mem 1641 (by decide +kernel) (by decide +kernel), gw_mem 14 (by decide +kernel) (by decide +kernel), by decide +kernel, by decide⟩, gw_mem 1640 (by decide +kernel) (by decide +kernel), gw_sel 96 (by decide +kernel) (by decide +kernel)⟩
theorem kX10_115 : Cond.fieldLink RX10 115 "FeudBookModel" "standing" "I" ∈ GW := gw_mem 1206 (by decide +kernel) (by decide +kernel)
theorem kX10_51 : Cond.fieldLink RX10 51 "FeudBookModel" "followed" "I" ∈ GW := gw_mem 1213 (by decide +kernel) (by decide +kernel)
def areB (x : XS) (p q : Int32) : Bool := mhasB (x.1 9 p.toNatClampNeg) q && mhasB (x.1 9 q.toNatClampNeg) p
def smL (x : XS) (cl : Int32) : Nat → Nat → Int32
  | 0, c => nI c
  | n + 1, c => if areB x (nI c) cl then nI c else smL x cl n (c + 1)
def smF (x : XS) (cl : Int32) : Int32 := smL x cl 20 0
def mstF (j : Nat) (y : XS) : XS := if mhasB (y.1 0 15) (nI j) then
    let y1 := setI y 9 (oneF y 11 (nI j) ^^^ 1).toNatClampNeg (y.1 9 (oneF y 11 (nI j) ^^^ 1).toNatClampNeg ||| ((1 : Int32) <<< (otherF y 11 (nI j) &&& 31)))
    setI y1 9 (otherF y1 11 (nI j) ^^^ 1).toNatClampNeg (y1.1 9 (otherF y1 11 (nI j) ^^^ 1).toNatClampNeg ||| ((1 : Int32) <<< (oneF y1 11 (nI j) &&& 31)))
  else y
def mclB (m c : Nat) (y : XS) : XS := if mhasB (y.1 9 c) (nI m) then setI y 9 c (y.1 9 c ||| y.1 9 m) else y
def mcoF (c : Nat) (y : XS) : XS := setI y 0 23 (y.1 0 23 + (if smF y (nI c) = nI c then 1 else 0))
def mfol (x : XS) : XS := if x.1 0 22 = x.1 0 15 then x else
  let x1 := setI x 0 22 (x.1 0 15)
  let x2 := itP (fun j y => setI y 9 j ((1 : Int32) <<< (nI j &&& 31))) 20 x1
  let x3 := itP mstF (x2.1 11 1).toNatClampNeg x2
  let x4 := itP (fun m => itP (mclB m) 20) 20 x3
  let x5 := setI x4 0 23 0
  itP mcoF (2 * x5.1 11 0).toNatClampNeg x5
/-- what the reference needs of the book that it holds -/
def MOK (x : XS) : Prop := (x.1 11 1).toNatClampNeg ≤ 20 ∧ (2 * x.1 11 0).toNatClampNeg ≤ 20 ∧ ∀ j, j < (x.1 11 1).toNatClampNeg → (∃ c, c < 20 ∧ oneF x 11 (nI j) = nI c) ∧ (∃ c, c < 20 ∧ otherF x 11 (nI j) = nI c)
theorem x1_20 : ∀ c, c < 20 → ∃ d, d < 20 ∧ nI c ^^^ 1 = nI d := by
  have : ∀ c : Fin 20, nI c.val ^^^ 1 = nI (c.val ^^^ 1) ∧ c.val ^^^ 1 < 20 := by decide +kernel
  intro c hc
  exact ⟨c ^^^ 1, (this ⟨c, hc⟩).2, (this ⟨c, hc⟩).1⟩
theorem one_eq {x y : XS} {k : Int32} (h : ∀ i, y.1 12 i = x.1 12 i) (h3 : ∀ i, y.1 13 i = x.1 13 i) : oneF y 11 k = oneF x 11 k := by
  unfold oneF; simp only [h, h3]
theorem other_eq {x y : XS} {k : Int32} (h : ∀ i, y.1 12 i = x.1 12 i) (h4 : ∀ i, y.1 14 i = x.1 14 i) : otherF y 11 k = otherF x 11 k := by
  unfold otherF; simp only [h, h4]
theorem mst_1 {j : Nat} {y : XS} {q k : Nat} (h : q ≠ 9) : (mstF j y).1 q k = y.1 q k := by
  unfold mstF; split
  · simp only []; rw [rdq h, rdq h]
  · rfl
theorem mcl_1 {m c : Nat} {y : XS} {q k : Nat} (h : q ≠ 9) : (mclB m c y).1 q k = y.1 q k := by
  unfold mclB; split
  · rw [rdq h]
  · rfl
/-- a bit of a row stays, as rows are put together -/
theorem mcl_bit {m c d e : Nat} {y : XS} (hd : bit (y.1 9 d) e = true) : bit ((mclB m c y).1 9 d) e = true := by
  unfold mclB
  split
  · rw [rdI]
    split
    · rename_i h; rw [bit_or, ← h.2, hd]; rfl
    · exact hd
  · exact hd
theorem mst_bit {j d e : Nat} {y : XS} (hd : bit (y.1 9 d) e = true) : bit ((mstF j y).1 9 d) e = true := by
  have key : ∀ (z : XS) (i : Nat) (w : Int32), bit (z.1 9 d) e = true → bit ((setI z 9 i (z.1 9 i ||| w)).1 9 d) e = true := by
    intro z i w hz
    rw [rdI]
    split
    · rename_i h; rw [bit_or, ← h.2, hz]; rfl
    · exact hz
  unfold mstF
  split
  · exact key _ _ _ (key _ _ _ hd)
  · exact hd
theorem itP_inv {f : Nat → XS → XS} {P : XS → Prop} (h : ∀ j y, P y → P (f j y)) (n : Nat) (y : XS) (hy : P y) : P (itP f n y) := by
  induction n with
  | zero => exact hy
  | succ n ih => exact h _ _ ih

set_option maxHeartbeats 4000000 in
set_option maxRecDepth 100000 in
theorem c_X10_areOne {g : Gx} {a : Nat → Nat} {x : XS} {p q : Int32} (hp : vp_in p 20) (hq : vp_in q 20) : Mx g yX10_areOne cX10_areOne 3 (some .boolean) 2 0 0 LM a x [.ref (a 0), .int p, .int q] (pr (some (.int (b2i (areB x p q)))) x) := by
  refine Mx_of (by decide +kernel) (Nat.le_of_ble_eq_true rfl) ?_
  intro k hk he hg
  subst hg

  refine xaload_n hk dX10_areOne_0 rfl ?_
  refine xgetR (ci := 10) (f := 24) hk dX10_areOne_1 ⟨rfl, by decide, _, rfl, rfl⟩ kX10_54 ?_
  refine xiload_n hk dX10_areOne_4 rfl ?_
  refine xiald hk dX10_areOne_5 rfl hp ?_
  refine xiload_n hk dX10_areOne_6 rfl ?_
  refine xcallS hk c_X10_has bX10_has kX10_74 dX10_areOne_7 rfl rfl (by decide) ⟨by decide, by decide⟩ (Nat.le_of_ble_eq_true rfl) (det ?_)
  refine xif_eq hk 30 dX10_areOne_10 (by decide) (fun h10 => ?_) (fun h10 => ?_)
  · rw [b2i_0] at h10
    refine xiconst (v := 0) hk dX10_areOne_30 (by decide) ?_
    refine xzret hk he dX10_areOne_31 ⟨by decide, by decide⟩ (by first | with_reducible exact nar_b _ | rfl) ?_
    exact ⟨by simp [areB, b2i, *], rfl⟩
  · rw [b2i_t] at h10
    refine xaload_n hk dX10_areOne_13 rfl ?_
    refine xgetR (ci := 10) (f := 24) hk dX10_areOne_14 ⟨rfl, by decide, _, rfl, rfl⟩ kX10_54 ?_
    refine xiload_n hk dX10_areOne_17 rfl ?_
    refine xiald hk dX10_areOne_18 rfl hq ?_
    refine xiload_n hk dX10_areOne_19 rfl ?_
    refine xcallS hk c_X10_has bX10_has kX10_74 dX10_areOne_20 rfl rfl (by decide) ⟨by decide, by decide⟩ (Nat.le_of_ble_eq_true rfl) (det ?_)
    refine xif_eq hk 30 dX10_areOne_23 (by decide) (fun h23 => ?_) (fun h23 => ?_)
    · rw [b2i_0] at h23
      refine xiconst (v := 0) hk dX10_areOne_30 (by decide) ?_
      refine xzret hk he dX10_areOne_31 ⟨by decide, by decide⟩ (by first | with_reducible exact nar_b _ | rfl) ?_
      exact ⟨by simp [areB, b2i, *], rfl⟩
    · rw [b2i_t] at h23
      refine xiconst (v := 1) hk dX10_areOne_26 (by decide) ?_
      refine xgoto hk 31 dX10_areOne_27 (by decide) ?_
      refine xzret hk he dX10_areOne_31 ⟨by decide, by decide⟩ (by first | with_reducible exact nar_b _ | rfl) ?_
      exact ⟨by simp [areB, b2i, *], rfl⟩
set_option maxHeartbeats 4000000 in
set_option maxRecDepth 100000 in
theorem c_X10_smallest {g : Gx} {a : Nat → Nat} {x : XS} {j : Nat} (hj : j < 20) (hs : mhasB (x.1 9 j) (nI j) = true) : Mx g yX10_smallest cX10_smallest 3 (some .int) 3 0 0 LM a x [.ref (a 0), .int (nI j)] (pr (some (.int (smF x (nI j)))) x) := by
  refine Mx_of (by decide +kernel) (Nat.le_of_ble_eq_true rfl) ?_
  intro k hk he hg
  subst hg

  have hjj : areB x (nI j) (nI j) = true := by rw [areB, nI_clamp (by omega), hs]; rfl
  have loop : ∀ (n c : Nat) (v : Int32), v = nI c → n + c = 20 → c ≤ j → smL x (nI j) n c = smF x (nI j) → Wx k 0 0 LM a x 2 [(0, .ref (a 0)), (1, .int (nI j)), (2, .int v)] [] := by
    intro n
    induction n with
    | zero => intros; omega
    | succ n ih =>
      intro c v hv hn hc hI
      subst hv
      rw [smL] at hI
      refine xaload_n hk dX10_smallest_2 rfl ?_
      refine xiload_n hk dX10_smallest_3 rfl ?_
      refine xiload_n hk dX10_smallest_4 rfl ?_
      refine xcallV hk (c_X10_areOne (vp_in_nI (by omega) (by decide)) (vp_in_nI (by omega) (by decide))) bX10_areOne kX10_124 dX10_smallest_5 rfl ⟨_, _, _, _, rfl, rfl⟩ rfl (by decide) ⟨by decide, by decide⟩ (Nat.le_of_ble_eq_true rfl) (det ?_)
      refine xif_ne hk 17 dX10_smallest_8 (by decide) (fun h8 => ?_) (fun h8 => ?_)
      · rw [b2i_t] at h8
        rw [if_pos h8] at hI
        refine xiload_n hk dX10_smallest_17 rfl ?_
        refine xiret hk he dX10_smallest_18 ⟨by decide, by decide⟩ ?_
        exact ⟨by rw [← hI], rfl⟩
      · rw [b2i_0] at h8
        have hne : c ≠ j := fun z => by rw [z, hjj] at h8; exact Bool.noConfusion h8
        rw [h8, if_neg Bool.false_ne_true] at hI
        refine xiinc hk dX10_smallest_11 rfl (by decide) rfl ?_
        refine xgoto hk 2 dX10_smallest_14 (by decide) ?_
        exact ih (c + 1) _ (nI_inc c) (by omega) (by omega) hI
  refine xiconst (v := 0) hk dX10_smallest_0 (by decide) ?_
  refine xistore_n hk dX10_smallest_1 (by decide) ?_
  exact loop 20 0 _ rfl (by omega) (by omega) rfl
set_option maxHeartbeats 4000000 in
set_option maxRecDepth 100000 in
theorem c_X10_follow {g : Gx} {a : Nat → Nat} {x : XS} (hM : MOK x) : Mx g yX10_follow cX10_follow 3 none 4 0 0 LM a x [.ref (a 0)] (pr none (mfol x)) := by
  refine Mx_of (by decide +kernel) (Nat.le_of_ble_eq_true rfl) ?_
  intro k hk he hg
  subst hg

  obtain ⟨hS, hF, hC⟩ := hM
  have l5 : ∀ (z : XS), z.1 11 0 = x.1 11 0 → (∀ d, d < 20 → bit (z.1 9 d) d = true) → (∀ y : XS, y = itP mcoF (2 * z.1 11 0).toNatClampNeg z → Wx k 0 0 LM a y 235 [(0, .ref (a 0))] []) → ∀ (n c : Nat) (v : Int32) (y : XS), (2 * z.1 11 0).toNatClampNeg - c < n → v = nI c → c ≤ (2 * z.1 11 0).toNatClampNeg → y = itP mcoF c z → Wx k 0 0 LM a y 195 [(0, .ref (a 0)), (1, .int v)] [] := by
    intro z hz0 hzd kk n
    induction n with
    | zero => intros; omega
    | succ n ih =>
      intro c v y hn hv hc hy
      subst hv
      rw [← hz0] at hF
      have e0 : y.1 11 0 = z.1 11 0 := by rw [hy, itP_1 (fun c y => by unfold mcoF; rw [rdq (by decide)])]
      have e9 : ∀ d, y.1 9 d = z.1 9 d := fun d => by rw [hy, itP_1 (fun c y => by unfold mcoF; rw [rdq (by decide)])]
      refine xiload_n hk dX10_follow_195 rfl ?_
      refine xaload_n hk dX10_follow_196 rfl ?_
      refine xgetR (ci := 10) (f := 11) hk dX10_follow_197 ⟨rfl, by decide, _, rfl, rfl⟩ kX10_35 ?_
      refine xcallV hk c_X9_claims bX9_claims kX10_70 dX10_follow_200 rfl ⟨_, _, _, _, rfl, rfl⟩ rfl (by decide) ⟨by decide, by decide⟩ (Nat.le_of_ble_eq_true rfl) (det ?_)
      refine xicmp_ge hk 235 dX10_follow_203 (by decide) (fun h203 => ?_) (fun h203 => ?_)
      · rw [e0, le_nI (by omega)] at h203
        refine xsub [(0, _)] rfl ?_
        exact kk _ (by rw [hy, show c = (2 * z.1 11 0).toNatClampNeg by omega])
      · rw [e0, le_nI (by omega)] at h203
        refine xaload_n hk dX10_follow_206 rfl ?_
        refine xdup hk dX10_follow_207 rfl ?_
        refine xgetI (ci := 10) (f := 23) hk dX10_follow_208 ⟨rfl, by decide, _, rfl, rfl⟩ kX10_118 ?_
        refine xaload_n hk dX10_follow_211 rfl ?_
        refine xiload_n hk dX10_follow_212 rfl ?_
        refine xcallV hk (c_X10_smallest (show c < 20 by omega) (by rw [mhasB_bit (by omega), e9]; exact hzd _ (by omega))) bX10_smallest kX10_121 dX10_follow_213 rfl ⟨_, _, _, _, rfl, rfl⟩ rfl (by decide) ⟨by decide, by decide⟩ (Nat.le_of_ble_eq_true rfl) (det ?_)
        refine xiload_n hk dX10_follow_216 rfl ?_
        refine xicmp_ne hk 224 dX10_follow_217 (by decide) (fun h217 => ?_) (fun h217 => ?_)
        · refine xiconst (v := 0) hk dX10_follow_224 (by decide) ?_
          refine xiadd hk dX10_follow_225 ?_
          refine xputI (ci := 10) (f := 23) hk dX10_follow_226 ⟨rfl, by decide, _, rfl, rfl⟩ kX10_118 ⟨rfl, by decide +kernel⟩ ?_
          refine xiinc hk dX10_follow_229 rfl (by decide) rfl ?_
          refine xgoto hk 195 dX10_follow_232 (by decide) ?_
          exact ih (c + 1) _ _ (by omega) (nI_inc c) (by omega) (by rw [itP, ← hy, mcoF]; first | rw [if_pos h217] | rw [if_neg h217])
        · refine xiconst (v := 1) hk dX10_follow_220 (by decide) ?_
          refine xgoto hk 225 dX10_follow_221 (by decide) ?_
          refine xiadd hk dX10_follow_225 ?_
          refine xputI (ci := 10) (f := 23) hk dX10_follow_226 ⟨rfl, by decide, _, rfl, rfl⟩ kX10_118 ⟨rfl, by decide +kernel⟩ ?_
          refine xiinc hk dX10_follow_229 rfl (by decide) rfl ?_
          refine xgoto hk 195 dX10_follow_232 (by decide) ?_
          exact ih (c + 1) _ _ (by omega) (nI_inc c) (by omega) (by rw [itP, ← hy, mcoF]; first | rw [if_pos h217] | rw [if_neg h217])
  have l4i : ∀ (m : Nat), m < 20 → ∀ (z : XS), (∀ y : XS, y = itP (mclB m) 20 z → Wx k 0 0 LM a y 182 [(0, .ref (a 0)), (1, .int (nI m))] []) → ∀ (n j : Nat) (v : Int32) (y : XS), 20 - j < n → v = nI j → j ≤ 20 → y = itP (mclB m) j z → Wx k 0 0 LM a y 142 [(0, .ref (a 0)), (1, .int (nI m)), (2, .int v)] [] := by
    intro m hm z kk n
    induction n with
    | zero => intros; omega
    | succ n ih =>
      intro j v y hn hv hj hy
      subst hv
      refine xiload_n hk dX10_follow_142 rfl ?_
      refine xbipush (v := 20) hk dX10_follow_143 (by decide) ?_
      refine xicmp_ge hk 182 dX10_follow_145 (by decide) (fun h145 => ?_) (fun h145 => ?_)
      · rw [show (20 : Int32) = nI 20 from rfl, nI_leI (by decide) (by omega)] at h145
        obtain rfl : j = 20 := by omega
        refine xsub [(0, _), (1, _)] rfl ?_
        exact kk _ hy
      · rw [show (20 : Int32) = nI 20 from rfl, nI_leI (by decide) (by omega)] at h145
        refine xaload_n hk dX10_follow_148 rfl ?_
        refine xgetR (ci := 10) (f := 24) hk dX10_follow_149 ⟨rfl, by decide, _, rfl, rfl⟩ kX10_54 ?_
        refine xiload_n hk dX10_follow_152 rfl ?_
        refine xiald hk dX10_follow_153 rfl (vp_in_nI (by omega) (by decide)) ?_
        rw [nI_clamp (by omega)]
        refine xiload_n hk dX10_follow_154 rfl ?_
        refine xcallS hk c_X10_has bX10_has kX10_74 dX10_follow_155 rfl rfl (by decide) ⟨by decide, by decide⟩ (Nat.le_of_ble_eq_true rfl) (det ?_)
        refine xif_eq hk 176 dX10_follow_158 (by decide) (fun h158 => ?_) (fun h158 => ?_)
        · rw [b2i_0] at h158
          refine xiinc hk dX10_follow_176 rfl (by decide) rfl ?_
          refine xgoto hk 142 dX10_follow_179 (by decide) ?_
          refine xsub [(0, _), (1, _), (2, _)] rfl ?_
          exact ih (j + 1) _ _ (by omega) (nI_inc j) (by omega) (by subst hy; simp [itP, mclB, *])
        · rw [b2i_t] at h158
          refine xaload_n hk dX10_follow_161 rfl ?_
          refine xgetR (ci := 10) (f := 24) hk dX10_follow_162 ⟨rfl, by decide, _, rfl, rfl⟩ kX10_54 ?_
          refine xiload_n hk dX10_follow_165 rfl ?_
          refine xdup2 hk dX10_follow_166 rfl rfl ?_
          refine xiald hk dX10_follow_167 rfl (vp_in_nI (by omega) (by decide)) ?_
          rw [nI_clamp (by omega)]
          refine xaload_n hk dX10_follow_168 rfl ?_
          refine xgetR (ci := 10) (f := 24) hk dX10_follow_169 ⟨rfl, by decide, _, rfl, rfl⟩ kX10_54 ?_
          refine xiload_n hk dX10_follow_172 rfl ?_
          refine xiald hk dX10_follow_173 rfl (vp_in_nI (by omega) (by decide)) ?_
          rw [nI_clamp (by omega)]
          refine xior hk dX10_follow_174 ?_
          refine xiast hk dX10_follow_175 rfl (vp_in_nI (by omega) (by decide)) ?_
          rw [nI_clamp (by omega)]
          refine xiinc hk dX10_follow_176 rfl (by decide) rfl ?_
          refine xgoto hk 142 dX10_follow_179 (by decide) ?_
          refine xsub [(0, _), (1, _), (2, _)] rfl ?_
          exact ih (j + 1) _ _ (by omega) (nI_inc j) (by omega) (by subst hy; simp [itP, mclB, *])
  have l4 : ∀ (z : XS), (∀ y : XS, y = itP (fun m => itP (mclB m) 20) 20 z → Wx k 0 0 LM a y 188 [(0, .ref (a 0))] []) → ∀ (n j : Nat) (v : Int32) (y : XS), 20 - j < n → v = nI j → j ≤ 20 → y = itP (fun m => itP (mclB m) 20) j z → Wx k 0 0 LM a y 134 [(0, .ref (a 0)), (1, .int v)] [] := by
    intro z kk n
    induction n with
    | zero => intros; omega
    | succ n ih =>
      intro j v y hn hv hj hy
      subst hv
      refine xiload_n hk dX10_follow_134 rfl ?_
      refine xbipush (v := 20) hk dX10_follow_135 (by decide) ?_
      refine xicmp_ge hk 188 dX10_follow_137 (by decide) (fun h137 => ?_) (fun h137 => ?_)
      · rw [show (20 : Int32) = nI 20 from rfl, nI_leI (by decide) (by omega)] at h137
        obtain rfl : j = 20 := by omega
        refine xsub [(0, _)] rfl ?_
        exact kk _ hy
      · rw [show (20 : Int32) = nI 20 from rfl, nI_leI (by decide) (by omega)] at h137
        refine xiconst (v := 0) hk dX10_follow_140 (by decide) ?_
        refine xistore_n hk dX10_follow_141 (by decide) ?_
        refine l4i j (by omega) y ?_ _ 0 _ y (Nat.lt_succ_self _) rfl (by omega) rfl
        intro y5 hy5
        refine xiinc hk dX10_follow_182 rfl (by decide) rfl ?_
        refine xgoto hk 134 dX10_follow_185 (by decide) ?_
        exact ih (j + 1) _ _ (by omega) (nI_inc j) (by omega) (by rw [itP, ← hy, hy5])
  have l3 : ∀ (z : XS), (∀ q i, q ≠ 0 → q ≠ 9 → z.1 q i = x.1 q i) → (∀ y : XS, y = itP mstF (z.1 11 1).toNatClampNeg z → Wx k 0 0 LM a y 132 [(0, .ref (a 0))] []) → ∀ (n j : Nat) (v : Int32) (y : XS), (z.1 11 1).toNatClampNeg - j < n → v = nI j → j ≤ (z.1 11 1).toNatClampNeg → y = itP mstF j z → Wx k 0 0 LM a y 45 [(0, .ref (a 0)), (1, .int v)] [] := by
    intro z hz kk n
    have hz1 : z.1 11 1 = x.1 11 1 := hz _ _ (by decide) (by decide)
    have hS2 : (z.1 11 1).toNatClampNeg ≤ 20 := by rw [hz1]; exact hS
    induction n with
    | zero => intros; omega
    | succ n ih =>
      intro j v y hn hv hj hy
      subst hv
      have e : ∀ q i, q ≠ 9 → y.1 q i = z.1 q i := fun q i h9 => by rw [hy, itP_1 (fun c y => mst_1 h9)]
      refine xiload_n hk dX10_follow_45 rfl ?_
      refine xaload_n hk dX10_follow_46 rfl ?_
      refine xgetR (ci := 10) (f := 11) hk dX10_follow_47 ⟨rfl, by decide, _, rfl, rfl⟩ kX10_35 ?_
      refine xgetNI (ci := 9) (f := 1) hk dX10_follow_50 ⟨rfl, by decide, _, rfl, rfl⟩ kX10_63 ?_
      refine xicmp_ge hk 132 dX10_follow_53 (by decide) (fun h53 => ?_) (fun h53 => ?_)
      · rw [e _ _ (by decide), le_nI (by omega)] at h53
        refine xsub [(0, _)] rfl ?_
        exact kk _ (by rw [hy, show j = (z.1 11 1).toNatClampNeg by omega])
      · rw [e _ _ (by decide), le_nI (by omega)] at h53
        have hjx : j < (x.1 11 1).toNatClampNeg := by rw [← hz1]; omega
        have o1 : ∀ w : XS, (∀ q i, q ≠ 9 → w.1 q i = y.1 q i) → oneF w 11 (nI j) = oneF x 11 (nI j) := fun w hw => one_eq (fun i => by rw [hw _ _ (by decide), e _ _ (by decide), hz _ _ (by decide) (by decide)]) (fun i => by rw [hw _ _ (by decide), e _ _ (by decide), hz _ _ (by decide) (by decide)])
        have o2 : ∀ w : XS, (∀ q i, q ≠ 9 → w.1 q i = y.1 q i) → otherF w 11 (nI j) = otherF x 11 (nI j) := fun w hw => other_eq (fun i => by rw [hw _ _ (by decide), e _ _ (by decide), hz _ _ (by decide) (by decide)]) (fun i => by rw [hw _ _ (by decide), e _ _ (by decide), hz _ _ (by decide) (by decide)])
        have b1 : ∀ w : XS, (∀ q i, q ≠ 9 → w.1 q i = y.1 q i) → vp_in (oneF w 11 (nI j) ^^^ 1) 20 := fun w hw => by
          obtain ⟨c, hc, h1⟩ := (hC j hjx).1
          obtain ⟨d, hd, h2⟩ := x1_20 c hc
          rw [o1 w hw, h1, h2]; exact vp_in_nI hd (by decide)
        have b2 : ∀ w : XS, (∀ q i, q ≠ 9 → w.1 q i = y.1 q i) → vp_in (otherF w 11 (nI j) ^^^ 1) 20 := fun w hw => by
          obtain ⟨c, hc, h1⟩ := (hC j hjx).2
          obtain ⟨d, hd, h2⟩ := x1_20 c hc
          rw [o2 w hw, h1, h2]; exact vp_in_nI hd (by decide)
        refine xaload_n hk dX10_follow_56 rfl ?_
        refine xgetI (ci := 10) (f := 15) hk dX10_follow_57 ⟨rfl, by decide, _, rfl, rfl⟩ kX10_115 ?_
        refine xiload_n hk dX10_follow_60 rfl ?_
        refine xcallS hk c_X10_has bX10_has kX10_74 dX10_follow_61 rfl rfl (by decide) ⟨by decide, by decide⟩ (Nat.le_of_ble_eq_true rfl) (det ?_)
        refine xif_ne hk 70 dX10_follow_64 (by decide) (fun h64 => ?_) (fun h64 => ?_)
        · rw [b2i_t] at h64
          refine xaload_n hk dX10_follow_70 rfl ?_
          refine xgetR (ci := 10) (f := 24) hk dX10_follow_71 ⟨rfl, by decide, _, rfl, rfl⟩ kX10_54 ?_
          refine xaload_n hk dX10_follow_74 rfl ?_
          refine xgetR (ci := 10) (f := 11) hk dX10_follow_75 ⟨rfl, by decide, _, rfl, rfl⟩ kX10_35 ?_
          refine xiload_n hk dX10_follow_78 rfl ?_
          refine xcallV hk (c_X9_one (vp_in_nI (by omega) (by decide))) bX9_one kX10_78 dX10_follow_79 rfl ⟨_, _, _, _, rfl, rfl⟩ rfl (by decide) ⟨by decide, by decide⟩ (Nat.le_of_ble_eq_true rfl) (det ?_)
          refine xiconst (v := 1) hk dX10_follow_82 (by decide) ?_
          refine xixor hk dX10_follow_83 ?_
          refine xdup2 hk dX10_follow_84 rfl rfl ?_
          refine xiald hk dX10_follow_85 rfl (b1 _ (fun _ _ _ => rfl)) ?_
          refine xiconst (v := 1) hk dX10_follow_86 (by decide) ?_
          refine xaload_n hk dX10_follow_87 rfl ?_
          refine xgetR (ci := 10) (f := 11) hk dX10_follow_88 ⟨rfl, by decide, _, rfl, rfl⟩ kX10_35 ?_
          refine xiload_n hk dX10_follow_91 rfl ?_
          refine xcallV hk (c_X9_other (vp_in_nI (by omega) (by decide))) bX9_other kX10_85 dX10_follow_92 rfl ⟨_, _, _, _, rfl, rfl⟩ rfl (by decide) ⟨by decide, by decide⟩ (Nat.le_of_ble_eq_true rfl) (det ?_)
          refine xishl hk dX10_follow_95 ?_
          refine xior hk dX10_follow_96 ?_
          refine xiast hk dX10_follow_97 rfl (b1 _ (fun _ _ _ => rfl)) ?_
          refine xaload_n hk dX10_follow_98 rfl ?_
          refine xgetR (ci := 10) (f := 24) hk dX10_follow_99 ⟨rfl, by decide, _, rfl, rfl⟩ kX10_54 ?_
          refine xaload_n hk dX10_follow_102 rfl ?_
          refine xgetR (ci := 10) (f := 11) hk dX10_follow_103 ⟨rfl, by decide, _, rfl, rfl⟩ kX10_35 ?_
          refine xiload_n hk dX10_follow_106 rfl ?_
          refine xcallV hk (c_X9_other (vp_in_nI (by omega) (by decide))) bX9_other kX10_85 dX10_follow_107 rfl ⟨_, _, _, _, rfl, rfl⟩ rfl (by decide) ⟨by decide, by decide⟩ (Nat.le_of_ble_eq_true rfl) (det ?_)
          refine xiconst (v := 1) hk dX10_follow_110 (by decide) ?_
          refine xixor hk dX10_follow_111 ?_
          refine xdup2 hk dX10_follow_112 rfl rfl ?_
          refine xiald hk dX10_follow_113 rfl (b2 _ (fun q i h => rdq h)) ?_
          refine xiconst (v := 1) hk dX10_follow_114 (by decide) ?_
          refine xaload_n hk dX10_follow_115 rfl ?_
          refine xgetR (ci := 10) (f := 11) hk dX10_follow_116 ⟨rfl, by decide, _, rfl, rfl⟩ kX10_35 ?_
          refine xiload_n hk dX10_follow_119 rfl ?_
          refine xcallV hk (c_X9_one (vp_in_nI (by omega) (by decide))) bX9_one kX10_78 dX10_follow_120 rfl ⟨_, _, _, _, rfl, rfl⟩ rfl (by decide) ⟨by decide, by decide⟩ (Nat.le_of_ble_eq_true rfl) (det ?_)
          refine xishl hk dX10_follow_123 ?_
          refine xior hk dX10_follow_124 ?_
          refine xiast hk dX10_follow_125 rfl (b2 _ (fun q i h => rdq h)) ?_
          refine xiinc hk dX10_follow_126 rfl (by decide) rfl ?_
          refine xgoto hk 45 dX10_follow_129 (by decide) ?_
          exact ih (j + 1) _ _ (by omega) (nI_inc j) (by omega) (by rw [itP, ← hy, mstF]; first | rw [if_pos h64] | rw [h64, if_neg Bool.false_ne_true])
        · rw [b2i_0] at h64
          refine xgoto hk 126 dX10_follow_67 (by decide) ?_
          refine xiinc hk dX10_follow_126 rfl (by decide) rfl ?_
          refine xgoto hk 45 dX10_follow_129 (by decide) ?_
          exact ih (j + 1) _ _ (by omega) (nI_inc j) (by omega) (by rw [itP, ← hy, mstF]; first | rw [if_pos h64] | rw [h64, if_neg Bool.false_ne_true])
  have l2 : ∀ (z : XS), (∀ y : XS, y = itP (fun j y => setI y 9 j ((1 : Int32) <<< (nI j &&& 31))) 20 z → Wx k 0 0 LM a y 43 [(0, .ref (a 0))] []) → ∀ (n j : Nat) (v : Int32) (y : XS), 20 - j < n → v = nI j → j ≤ 20 → y = itP (fun j y => setI y 9 j ((1 : Int32) <<< (nI j &&& 31))) j z → Wx k 0 0 LM a y 22 [(0, .ref (a 0)), (1, .int v)] [] := by
    intro z kk n
    induction n with
    | zero => intros; omega
    | succ n ih =>
      intro j v y hn hv hj hy
      subst hv
      refine xiload_n hk dX10_follow_22 rfl ?_
      refine xbipush (v := 20) hk dX10_follow_23 (by decide) ?_
      refine xicmp_ge hk 43 dX10_follow_25 (by decide) (fun h25 => ?_) (fun h25 => ?_)
      · rw [show (20 : Int32) = nI 20 from rfl, nI_leI (by decide) (by omega)] at h25
        obtain rfl : j = 20 := by omega
        refine xsub [(0, _)] rfl ?_
        exact kk _ hy
      · rw [show (20 : Int32) = nI 20 from rfl, nI_leI (by decide) (by omega)] at h25
        refine xaload_n hk dX10_follow_28 rfl ?_
        refine xgetR (ci := 10) (f := 24) hk dX10_follow_29 ⟨rfl, by decide, _, rfl, rfl⟩ kX10_54 ?_
        refine xiload_n hk dX10_follow_32 rfl ?_
        refine xiconst (v := 1) hk dX10_follow_33 (by decide) ?_
        refine xiload_n hk dX10_follow_34 rfl ?_
        refine xishl hk dX10_follow_35 ?_
        refine xiast hk dX10_follow_36 rfl (vp_in_nI (by omega) (by decide)) ?_
        rw [nI_clamp (by omega)]
        refine xiinc hk dX10_follow_37 rfl (by decide) rfl ?_
        refine xgoto hk 22 dX10_follow_40 (by decide) ?_
        exact ih (j + 1) _ _ (by omega) (nI_inc j) (by omega) (by subst hy; rfl)
  refine xaload_n hk dX10_follow_0 rfl ?_
  refine xgetI (ci := 10) (f := 22) hk dX10_follow_1 ⟨rfl, by decide, _, rfl, rfl⟩ kX10_51 ?_
  refine xaload_n hk dX10_follow_4 rfl ?_
  refine xgetI (ci := 10) (f := 15) hk dX10_follow_5 ⟨rfl, by decide, _, rfl, rfl⟩ kX10_115 ?_
  refine xicmp_ne hk 12 dX10_follow_8 (by decide) (fun h8 => ?_) (fun h8 => ?_)
  · refine xaload_n hk dX10_follow_12 rfl ?_
    refine xaload_n hk dX10_follow_13 rfl ?_
    refine xgetI (ci := 10) (f := 15) hk dX10_follow_14 ⟨rfl, by decide, _, rfl, rfl⟩ kX10_115 ?_
    refine xputI (ci := 10) (f := 22) hk dX10_follow_17 ⟨rfl, by decide, _, rfl, rfl⟩ kX10_51 ⟨rfl, by decide +kernel⟩ ?_
    refine xiconst (v := 0) hk dX10_follow_20 (by decide) ?_
    refine xistore_n hk dX10_follow_21 (by decide) ?_
    generalize hz : setI x 0 22 (x.1 0 15) = z
    refine l2 z ?_ _ 0 _ z (Nat.lt_succ_self _) rfl (by omega) rfl
    intro y2 hy2
    refine xiconst (v := 0) hk dX10_follow_43 (by decide) ?_
    refine xistore_n hk dX10_follow_44 (by decide) ?_
    have f2 : ∀ q i, q ≠ 0 → q ≠ 9 → y2.1 q i = x.1 q i := fun q i h0 h9 => by rw [hy2, itP_1 (fun j y => rdq h9), ← hz, rdq h0]
    have d2 : ∀ d, d < 20 → bit (y2.1 9 d) d = true := by
      intro d hd
      have hg : ∀ n, n ≤ 20 → d < n → (itP (fun j y => setI y 9 j ((1 : Int32) <<< (nI j &&& 31))) n z).1 9 d = (1 : Int32) <<< (nI d &&& 31) := by
        intro n
        induction n with
        | zero => intros; omega
        | succ n ih =>
          intro hn hdn
          rw [itP, rdI]
          by_cases hdn2 : d = n
          · subst hdn2; rw [if_pos ⟨rfl, rfl⟩]
          · rw [if_neg (fun z => hdn2 z.2)]; exact ih (by omega) (by omega)
      rw [hy2, hg 20 (by omega) hd, bit_shl1 (by omega) (by omega)]
      exact decide_eq_true rfl
    refine l3 y2 f2 ?_ _ 0 _ y2 (Nat.lt_succ_self _) rfl (by omega) rfl
    intro y3 hy3
    refine xiconst (v := 0) hk dX10_follow_132 (by decide) ?_
    refine xistore_n hk dX10_follow_133 (by decide) ?_
    refine l4 y3 ?_ _ 0 _ y3 (Nat.lt_succ_self _) rfl (by omega) rfl
    intro y4 hy4
    refine xaload_n hk dX10_follow_188 rfl ?_
    refine xiconst (v := 0) hk dX10_follow_189 (by decide) ?_
    refine xputI (ci := 10) (f := 23) hk dX10_follow_190 ⟨rfl, by decide, _, rfl, rfl⟩ kX10_118 ⟨rfl, by decide +kernel⟩ ?_
    refine xiconst (v := 0) hk dX10_follow_193 (by decide) ?_
    refine xistore_n hk dX10_follow_194 (by decide) ?_
    generalize hw : setI y4 0 23 0 = w
    have f0 : w.1 11 0 = x.1 11 0 := by
      rw [← hw, rdq (by decide), hy4, itP_1 (fun m y => itP_1 (fun c y => mcl_1 (by decide)) _ _), hy3, itP_1 (fun m y => mst_1 (by decide)), f2 _ _ (by decide) (by decide)]
    have dw : ∀ d, d < 20 → bit (w.1 9 d) d = true := fun d hd => by
      rw [← hw, rdq (by decide), hy4]
      exact itP_inv (P := fun y => bit (y.1 9 d) d = true) (fun m y hy => itP_inv (P := fun y => bit (y.1 9 d) d = true) (fun c y hy => mcl_bit hy) _ _ hy) _ _ (by rw [hy3]; exact itP_inv (P := fun y => bit (y.1 9 d) d = true) (fun m y hy => mst_bit hy) _ _ (d2 d hd))
    refine l5 w f0 dw ?_ _ 0 _ w (Nat.lt_succ_self _) rfl (by omega) rfl
    intro y5 hy5
    refine xvret hk he dX10_follow_235 ⟨by decide, by decide⟩ ?_
    exact ⟨rfl, by rw [hy5, ← hw, hy4, hy3, hy2, ← hz, mfol, if_neg h8]⟩
  · refine xvret hk he dX10_follow_11 ⟨by decide, by decide⟩ ?_
    exact ⟨rfl, by rw [mfol, if_pos h8]⟩
