theorem kX4_116 : Cond.methodLink RX4 116 yX4_readTest ∈ GW := gw_mem 1061 (by decide +kernel) (by decide +kernel)
theorem bX4_readTest : CBv yX4_readTest cX4_readTest 3 (some .boolean) 1 := ⟨⟨gw_mem 1064 (by decide +kernel) (by decide +kernel), gw_mem 17 (by decide +kernel) (by decide +kernel), by decide +kernel, by decide⟩, gw_mem 1063 (by decide +kernel) (by decide +kernel), gw_sel 41 (by decide +kernel) (by decide +kernel)⟩
theorem kX4_139 : Cond.methodLink RX4 139 yX4_isComparison ∈ GW := gw_mem 1093 (by decide +kernel) (by decide +kernel)
theorem bX4_isComparison : CBs yX4_isComparison cX4_isComparison 1 (some .boolean) 1 := ⟨⟨gw_mem 1095 (by decide +kernel) (by decide +kernel), gw_mem 17 (by decide +kernel) (by decide +kernel), by decide +kernel, by decide⟩, gw_mem 1094 (by decide +kernel) (by decide +kernel)⟩
set_option maxHeartbeats 4000000 in
set_option maxRecDepth 100000 in
theorem c_val {g : Gx} {a : Nat → Nat} : ∀ (f : Nat), f ≤ 8 → ∀ y : XS, Mx g yX4_readValue cX4_readValue 3 (some .boolean) (10 + 3 * f) 0 0 LF a y [.ref (a 34), .int (nI (8 - f))] (pr (some (.int (b2i (valU f y).1))) (valU f y).2) := by
  intro f
  induction f with
  | zero =>
    intro _ y
    exact c_X4_readValueS (d := nI 8) (R := fun x => (false, x)) (rk := 7) (fun h => absurd (show (8 : Int32) ≤ nI 8 by decide) h) (fun h => absurd (show (8 : Int32) ≤ nI 8 by decide) h) (by omega)
  | succ f ih =>
    intro hf y
    have e : nI (7 - f) + 1 = nI (8 - f) := by rw [nI_1, show 7 - f + 1 = 8 - f by omega]
    have ih1 := ih (by omega)
    rw [show 8 - (f + 1) = 7 - f by omega]
    exact c_X4_readValueS (d := nI (7 - f)) (R := valU f) (rk := 10 + 3 * f) (fun _ z => by rw [e]; exact ih1 z) (fun _ z => by rw [e]; exact c_X4_readSum (R := op2U 42 47 (valU f)) (fun z2 => c_X4_readProduct (R := valU f) ih1 (by omega)) (by omega)) (by omega)
set_option maxHeartbeats 4000000 in
set_option maxRecDepth 100000 in
theorem c_sum {g : Gx} {a : Nat → Nat} (f : Nat) (hf : f ≤ 8) : ∀ y : XS, Mx g yX4_readSum cX4_readSum 4 (some .boolean) (12 + 3 * f) 0 0 LF a y [.ref (a 34), .int (nI (8 - f))] (pr (some (.int (b2i (sumU (valU f) y).1))) (sumU (valU f) y).2) := fun y =>
  Mx_rk (by omega) (c_X4_readSum (R := op2U 42 47 (valU f)) (fun z2 => c_X4_readProduct (R := valU f) (c_val f hf) (by omega)) (by omega))
def testU (R : XS → Bool × XS) : XS → Bool × XS := opsU 306 (opsU 324 R)
def frU (u : Int32 × XS) : Int32 × XS := if u.1 < 0 then (-1, u.2) else let t := takeU u.2 322; if t.1 then claimU t.2 else (-1, t.2)
/-- a single test at the depth d; deeper ones are read by R, values by V -/
def sinS (d : Int32) (R V : XS → Bool × XS) (x : XS) : Bool × XS :=
  let kd := curK x
  if kd = 91 then
    let t := deepU x 91 d
    if t.1 then (let s := testU R t.2; if s.1 then takeU s.2 93 else (false, s.2)) else (false, t.2)
  else if kd = 319 then (let c := claimU (adv x); (if c.1 < 0 then false else true, addCoF c.2 319 c.1 0))
  else if kd = 320 then (let s := knownU (adv x) 36 20 ((adv x).1 8 1); (if s.1 < 0 then false else true, addCoF s.2 320 s.1 0))
  else if kd = 321 then (let c := claimU (adv x); let r := frU c; (if r.1 < 0 then false else true, addCoF r.2 321 c.1 r.1))
  else if kd = 323 then
    let t := deepU x 323 d
    if t.1 then (let s := R t.2; if s.1 then (true, addCoF s.2 323 0 0) else (false, s.2)) else (false, t.2)
  else
    let s1 := sumU V x
    if s1.1 then
      (if cmpK (curK s1.2) then
        let s2 := sumU V (adv s1.2)
        if s2.1 then (true, addCoF s2.2 (curK s1.2) 0 0) else (false, s2.2)
      else (false, s1.2))
    else (false, s1.2)
def sinU : Nat → XS → Bool × XS
  | 0 => sinS (nI 8) (fun x => (false, x)) (valU 0)
  | f + 1 => sinS (nI (7 - f)) (sinU f) (valU (f + 1))
set_option maxHeartbeats 4000000 in
set_option maxRecDepth 100000 in
theorem c_X4_readSingleS {g : Gx} {a : Nat → Nat} {x : XS} {d : Int32} {R V : XS → Bool × XS} {rk rs : Nat} (hR : ¬ 8 ≤ d → ∀ y : XS, Mx g yX4_readSingle cX4_readSingle 7 (some .boolean) rk 0 0 LF a y [.ref (a 34), .int (d + 1)] (pr (some (.int (b2i (R y).1))) (R y).2)) (hT : ¬ 8 ≤ d → ∀ y : XS, Mx g yX4_readTest cX4_readTest 3 (some .boolean) (rk + 2) 0 0 LF a y [.ref (a 34), .int (d + 1)] (pr (some (.int (b2i (testU R y).1))) (testU R y).2)) (hrk : 6 ≤ rk) (hS : ∀ y : XS, Mx g yX4_readSum cX4_readSum 4 (some .boolean) rs 0 0 LF a y [.ref (a 34), .int d] (pr (some (.int (b2i (sumU V y).1))) (sumU V y).2)) (hrs : rs < rk + 3) : Mx g yX4_readSingle cX4_readSingle 7 (some .boolean) (rk + 3) 0 0 LF a x [.ref (a 34), .int d] (pr (some (.int (b2i (sinS d R V x).1))) (sinS d R V x).2) := by
  refine Mx_of (by decide +kernel) (Nat.le_of_ble_eq_true rfl) ?_
  intro k hk he hg
  subst hg

  have dp : ∀ (y : XS) (kd : Int32), (deepU y kd d).1 = true → ¬ 8 ≤ d := by
    intro y kd h hd
    rw [deepU, if_pos hd] at h
    exact Bool.false_ne_true h
  refine xaload_n hk dX4_readSingle_0 rfl ?_
  refine xgetR (ci := 4) (f := 0) hk dX4_readSingle_1 ⟨rfl, by decide, _, rfl, rfl⟩ kX4_18 ?_
  refine xaload_n hk dX4_readSingle_4 rfl ?_
  refine xgetI (ci := 4) (f := 4) hk dX4_readSingle_5 ⟨rfl, by decide, _, rfl, rfl⟩ kX4_26 ?_
  refine xcallV hk c_X6_kindAt bX6_kindAt kX4_58 dX4_readSingle_8 rfl ⟨_, _, _, _, rfl, rfl⟩ rfl (by omega) ⟨by decide, by decide⟩ (Nat.le_of_ble_eq_true rfl) (det ?_)
  generalize hkd : kindAtF x (x.1 34 4) = kd
  by_cases hs11_0 : kd = 91
  · refine xlookup hk 97 dX4_readSingle_11 (by decide) (off := 86) (by rw [hs11_0]; decide +kernel) (by decide) ?_
    refine xaload_n hk dX4_readSingle_97 rfl ?_
    refine xbipush (v := 91) hk dX4_readSingle_98 (by decide) ?_
    refine xiload_n hk dX4_readSingle_100 rfl ?_
    refine xcallV hk c_X4_takeDeeper bX4_takeDeeper kX4_132 dX4_readSingle_101 rfl ⟨_, _, _, _, rfl, rfl⟩ rfl (by omega) ⟨by decide, by decide⟩ (Nat.le_of_ble_eq_true rfl) (det ?_)
    refine xif_eq hk 130 dX4_readSingle_104 (by decide) (fun h104 => ?_) (fun h104 => ?_)
    · rw [b2i_0] at h104
      refine xiconst (v := 0) hk dX4_readSingle_130 (by decide) ?_
      refine xzret hk he dX4_readSingle_131 ⟨by decide, by decide⟩ (by first | with_reducible exact nar_b _ | rfl) ?_
      exact ⟨by simp [sinS, frU, curK, adv, b2i, *], by simp [sinS, frU, curK, adv, *]⟩
    · rw [b2i_t] at h104
      refine xaload_n hk dX4_readSingle_107 rfl ?_
      refine xiload_n hk dX4_readSingle_108 rfl ?_
      refine xiconst (v := 1) hk dX4_readSingle_109 (by decide) ?_
      refine xiadd hk dX4_readSingle_110 ?_
      refine xcallV hk (hT (dp _ _ h104) _) bX4_readTest kX4_116 dX4_readSingle_111 rfl ⟨_, _, _, _, rfl, rfl⟩ rfl (by omega) ⟨by decide, by decide⟩ (Nat.le_of_ble_eq_true rfl) (det ?_)
      refine xif_eq hk 130 dX4_readSingle_114 (by decide) (fun h114 => ?_) (fun h114 => ?_)
      · rw [b2i_0] at h114
        refine xiconst (v := 0) hk dX4_readSingle_130 (by decide) ?_
        refine xzret hk he dX4_readSingle_131 ⟨by decide, by decide⟩ (by first | with_reducible exact nar_b _ | rfl) ?_
        exact ⟨by simp [sinS, frU, curK, adv, b2i, *], by simp [sinS, frU, curK, adv, *]⟩
      · rw [b2i_t] at h114
        refine xaload_n hk dX4_readSingle_117 rfl ?_
        refine xbipush (v := 93) hk dX4_readSingle_118 (by decide) ?_
        refine xcallV hk c_X4_take bX4_take kX4_46 dX4_readSingle_120 rfl ⟨_, _, _, _, rfl, rfl⟩ rfl (by omega) ⟨by decide, by decide⟩ (Nat.le_of_ble_eq_true rfl) (det ?_)
        refine xif_eq hk 130 dX4_readSingle_123 (by decide) (fun h123 => ?_) (fun h123 => ?_)
        · rw [b2i_0] at h123
          refine xiconst (v := 0) hk dX4_readSingle_130 (by decide) ?_
          refine xzret hk he dX4_readSingle_131 ⟨by decide, by decide⟩ (by first | with_reducible exact nar_b _ | rfl) ?_
          exact ⟨by simp [sinS, frU, curK, adv, b2i, *], by simp [sinS, frU, curK, adv, *]⟩
        · rw [b2i_t] at h123
          refine xiconst (v := 1) hk dX4_readSingle_126 (by decide) ?_
          refine xgoto hk 131 dX4_readSingle_127 (by decide) ?_
          refine xzret hk he dX4_readSingle_131 ⟨by decide, by decide⟩ (by first | with_reducible exact nar_b _ | rfl) ?_
          exact ⟨by simp [sinS, frU, curK, adv, b2i, *], by simp [sinS, frU, curK, adv, *]⟩
  by_cases hs11_1 : kd = 319
  · refine xlookup hk 132 dX4_readSingle_11 (by decide) (off := 121) (by rw [hs11_1]; decide +kernel) (by decide) ?_
    refine xaload_n hk dX4_readSingle_132 rfl ?_
    refine xdup hk dX4_readSingle_133 rfl ?_
    refine xgetI (ci := 4) (f := 4) hk dX4_readSingle_134 ⟨rfl, by decide, _, rfl, rfl⟩ kX4_26 ?_
    refine xiconst (v := 1) hk dX4_readSingle_137 (by decide) ?_
    refine xiadd hk dX4_readSingle_138 ?_
    refine xputI (ci := 4) (f := 4) hk dX4_readSingle_139 ⟨rfl, by decide, _, rfl, rfl⟩ kX4_26 ⟨rfl, by decide +kernel⟩ ?_
    refine xaload_n hk dX4_readSingle_142 rfl ?_
    refine xcallV hk c_X4_readClaim bX4_readClaim kX4_89 dX4_readSingle_143 rfl ⟨_, _, _, _, rfl, rfl⟩ rfl (by omega) ⟨by decide, by decide⟩ (Nat.le_of_ble_eq_true rfl) (det ?_)
    refine xistore_n hk dX4_readSingle_146 (by decide) ?_
    refine xaload_n hk dX4_readSingle_147 rfl ?_
    refine xgetR (ci := 4) (f := 1) hk dX4_readSingle_148 ⟨rfl, by decide, _, rfl, rfl⟩ kX4_22 ?_
    refine xsipush (v := 319) hk dX4_readSingle_151 (by decide) ?_
    refine xiload_n hk dX4_readSingle_154 rfl ?_
    refine xiconst (v := 0) hk dX4_readSingle_155 (by decide) ?_
    refine xcallV hk c_X0_addCode bX0_addCode kX4_126 dX4_readSingle_156 rfl ⟨_, _, _, _, rfl, rfl⟩ rfl (by omega) ⟨by decide, by decide⟩ (Nat.le_of_ble_eq_true rfl) (det ?_)
    refine xiload_n hk dX4_readSingle_159 rfl ?_
    refine xif_lt hk 167 dX4_readSingle_160 (by decide) (fun h160 => ?_) (fun h160 => ?_)
    · refine xiconst (v := 0) hk dX4_readSingle_167 (by decide) ?_
      refine xzret hk he dX4_readSingle_168 ⟨by decide, by decide⟩ (by first | with_reducible exact nar_b _ | rfl) ?_
      exact ⟨by simp [sinS, frU, curK, adv, b2i, *], by simp [sinS, frU, curK, adv, *]⟩
    · refine xiconst (v := 1) hk dX4_readSingle_163 (by decide) ?_
      refine xgoto hk 168 dX4_readSingle_164 (by decide) ?_
      refine xzret hk he dX4_readSingle_168 ⟨by decide, by decide⟩ (by first | with_reducible exact nar_b _ | rfl) ?_
      exact ⟨by simp [sinS, frU, curK, adv, b2i, *], by simp [sinS, frU, curK, adv, *]⟩
  by_cases hs11_2 : kd = 320
  · refine xlookup hk 169 dX4_readSingle_11 (by decide) (off := 158) (by rw [hs11_2]; decide +kernel) (by decide) ?_
    refine xaload_n hk dX4_readSingle_169 rfl ?_
    refine xdup hk dX4_readSingle_170 rfl ?_
    refine xgetI (ci := 4) (f := 4) hk dX4_readSingle_171 ⟨rfl, by decide, _, rfl, rfl⟩ kX4_26 ?_
    refine xiconst (v := 1) hk dX4_readSingle_174 (by decide) ?_
    refine xiadd hk dX4_readSingle_175 ?_
    refine xputI (ci := 4) (f := 4) hk dX4_readSingle_176 ⟨rfl, by decide, _, rfl, rfl⟩ kX4_26 ⟨rfl, by decide +kernel⟩ ?_
    refine xaload_n hk dX4_readSingle_179 rfl ?_
    refine xaload_n hk dX4_readSingle_180 rfl ?_
    refine xgetR (ci := 4) (f := 3) hk dX4_readSingle_181 ⟨rfl, by decide, _, rfl, rfl⟩ kX4_15 ?_
    refine xaload_n hk dX4_readSingle_184 rfl ?_
    refine xgetR (ci := 4) (f := 1) hk dX4_readSingle_185 ⟨rfl, by decide, _, rfl, rfl⟩ kX4_22 ?_
    refine xgetNI (ci := 0) (f := 1) hk dX4_readSingle_188 ⟨rfl, by decide, _, rfl, rfl⟩ kX4_97 ?_
    refine xcallV hk c_X4_readKnownName36 bX4_readKnownName kX4_106 dX4_readSingle_191 rfl ⟨_, _, _, _, rfl, rfl⟩ rfl (by omega) ⟨by decide, by decide⟩ (Nat.le_of_ble_eq_true rfl) (det ?_)
    refine xistore_n hk dX4_readSingle_194 (by decide) ?_
    refine xaload_n hk dX4_readSingle_195 rfl ?_
    refine xgetR (ci := 4) (f := 1) hk dX4_readSingle_196 ⟨rfl, by decide, _, rfl, rfl⟩ kX4_22 ?_
    refine xsipush (v := 320) hk dX4_readSingle_199 (by decide) ?_
    refine xiload_n hk dX4_readSingle_202 rfl ?_
    refine xiconst (v := 0) hk dX4_readSingle_203 (by decide) ?_
    refine xcallV hk c_X0_addCode bX0_addCode kX4_126 dX4_readSingle_204 rfl ⟨_, _, _, _, rfl, rfl⟩ rfl (by omega) ⟨by decide, by decide⟩ (Nat.le_of_ble_eq_true rfl) (det ?_)
    refine xiload_n hk dX4_readSingle_207 rfl ?_
    refine xif_lt hk 215 dX4_readSingle_208 (by decide) (fun h208 => ?_) (fun h208 => ?_)
    · refine xiconst (v := 0) hk dX4_readSingle_215 (by decide) ?_
      refine xzret hk he dX4_readSingle_216 ⟨by decide, by decide⟩ (by first | with_reducible exact nar_b _ | rfl) ?_
      exact ⟨by simp [sinS, frU, curK, adv, b2i, *], by simp [sinS, frU, curK, adv, *]⟩
    · refine xiconst (v := 1) hk dX4_readSingle_211 (by decide) ?_
      refine xgoto hk 216 dX4_readSingle_212 (by decide) ?_
      refine xzret hk he dX4_readSingle_216 ⟨by decide, by decide⟩ (by first | with_reducible exact nar_b _ | rfl) ?_
      exact ⟨by simp [sinS, frU, curK, adv, b2i, *], by simp [sinS, frU, curK, adv, *]⟩
  by_cases hs11_3 : kd = 321
  · refine xlookup hk 217 dX4_readSingle_11 (by decide) (off := 206) (by rw [hs11_3]; decide +kernel) (by decide) ?_
    refine xaload_n hk dX4_readSingle_217 rfl ?_
    refine xdup hk dX4_readSingle_218 rfl ?_
    refine xgetI (ci := 4) (f := 4) hk dX4_readSingle_219 ⟨rfl, by decide, _, rfl, rfl⟩ kX4_26 ?_
    refine xiconst (v := 1) hk dX4_readSingle_222 (by decide) ?_
    refine xiadd hk dX4_readSingle_223 ?_
    refine xputI (ci := 4) (f := 4) hk dX4_readSingle_224 ⟨rfl, by decide, _, rfl, rfl⟩ kX4_26 ⟨rfl, by decide +kernel⟩ ?_
    refine xaload_n hk dX4_readSingle_227 rfl ?_
    refine xcallV hk c_X4_readClaim bX4_readClaim kX4_89 dX4_readSingle_228 rfl ⟨_, _, _, _, rfl, rfl⟩ rfl (by omega) ⟨by decide, by decide⟩ (Nat.le_of_ble_eq_true rfl) (det ?_)
    refine xistore hk dX4_readSingle_231 (by decide) ?_
    refine xiload hk dX4_readSingle_233 rfl ?_
    refine xif_lt hk 255 dX4_readSingle_235 (by decide) (fun h235 => ?_) (fun h235 => ?_)
    · refine xiconst (v := (-1)) hk dX4_readSingle_255 (by decide) ?_
      refine xistore hk dX4_readSingle_256 (by decide) ?_
      refine xaload_n hk dX4_readSingle_258 rfl ?_
      refine xgetR (ci := 4) (f := 1) hk dX4_readSingle_259 ⟨rfl, by decide, _, rfl, rfl⟩ kX4_22 ?_
      refine xsipush (v := 321) hk dX4_readSingle_262 (by decide) ?_
      refine xiload hk dX4_readSingle_265 rfl ?_
      refine xiload hk dX4_readSingle_267 rfl ?_
      refine xcallV hk c_X0_addCode bX0_addCode kX4_126 dX4_readSingle_269 rfl ⟨_, _, _, _, rfl, rfl⟩ rfl (by omega) ⟨by decide, by decide⟩ (Nat.le_of_ble_eq_true rfl) (det ?_)
      refine xiload hk dX4_readSingle_272 rfl ?_
      refine xif_lt hk 281 dX4_readSingle_274 (by decide) (fun h274 => ?_) (fun h274 => ?_)
      · refine xiconst (v := 0) hk dX4_readSingle_281 (by decide) ?_
        refine xzret hk he dX4_readSingle_282 ⟨by decide, by decide⟩ (by first | with_reducible exact nar_b _ | rfl) ?_
        exact ⟨by simp [sinS, frU, curK, adv, b2i, *], by simp [sinS, frU, curK, adv, *]⟩
      · refine xiconst (v := 1) hk dX4_readSingle_277 (by decide) ?_
        refine xgoto hk 282 dX4_readSingle_278 (by decide) ?_
        refine xzret hk he dX4_readSingle_282 ⟨by decide, by decide⟩ (by first | with_reducible exact nar_b _ | rfl) ?_
        exact ⟨by simp [sinS, frU, curK, adv, b2i, *], by simp [sinS, frU, curK, adv, *]⟩
    · refine xaload_n hk dX4_readSingle_238 rfl ?_
      refine xsipush (v := 322) hk dX4_readSingle_239 (by decide) ?_
      refine xcallV hk c_X4_take bX4_take kX4_46 dX4_readSingle_242 rfl ⟨_, _, _, _, rfl, rfl⟩ rfl (by omega) ⟨by decide, by decide⟩ (Nat.le_of_ble_eq_true rfl) (det ?_)
      refine xif_eq hk 255 dX4_readSingle_245 (by decide) (fun h245 => ?_) (fun h245 => ?_)
      · rw [b2i_0] at h245
        refine xiconst (v := (-1)) hk dX4_readSingle_255 (by decide) ?_
        refine xistore hk dX4_readSingle_256 (by decide) ?_
        refine xaload_n hk dX4_readSingle_258 rfl ?_
        refine xgetR (ci := 4) (f := 1) hk dX4_readSingle_259 ⟨rfl, by decide, _, rfl, rfl⟩ kX4_22 ?_
        refine xsipush (v := 321) hk dX4_readSingle_262 (by decide) ?_
        refine xiload hk dX4_readSingle_265 rfl ?_
        refine xiload hk dX4_readSingle_267 rfl ?_
        refine xcallV hk c_X0_addCode bX0_addCode kX4_126 dX4_readSingle_269 rfl ⟨_, _, _, _, rfl, rfl⟩ rfl (by omega) ⟨by decide, by decide⟩ (Nat.le_of_ble_eq_true rfl) (det ?_)
        refine xiload hk dX4_readSingle_272 rfl ?_
        refine xif_lt hk 281 dX4_readSingle_274 (by decide) (fun h274 => ?_) (fun h274 => ?_)
        · refine xiconst (v := 0) hk dX4_readSingle_281 (by decide) ?_
          refine xzret hk he dX4_readSingle_282 ⟨by decide, by decide⟩ (by first | with_reducible exact nar_b _ | rfl) ?_
          exact ⟨by simp [sinS, frU, curK, adv, b2i, *], by simp [sinS, frU, curK, adv, *]⟩
        · refine xiconst (v := 1) hk dX4_readSingle_277 (by decide) ?_
          refine xgoto hk 282 dX4_readSingle_278 (by decide) ?_
          refine xzret hk he dX4_readSingle_282 ⟨by decide, by decide⟩ (by first | with_reducible exact nar_b _ | rfl) ?_
          exact ⟨by simp [sinS, frU, curK, adv, b2i, *], by simp [sinS, frU, curK, adv, *]⟩
      · rw [b2i_t] at h245
        refine xaload_n hk dX4_readSingle_248 rfl ?_
        refine xcallV hk c_X4_readClaim bX4_readClaim kX4_89 dX4_readSingle_249 rfl ⟨_, _, _, _, rfl, rfl⟩ rfl (by omega) ⟨by decide, by decide⟩ (Nat.le_of_ble_eq_true rfl) (det ?_)
        refine xgoto hk 256 dX4_readSingle_252 (by decide) ?_
        refine xistore hk dX4_readSingle_256 (by decide) ?_
        refine xaload_n hk dX4_readSingle_258 rfl ?_
        refine xgetR (ci := 4) (f := 1) hk dX4_readSingle_259 ⟨rfl, by decide, _, rfl, rfl⟩ kX4_22 ?_
        refine xsipush (v := 321) hk dX4_readSingle_262 (by decide) ?_
        refine xiload hk dX4_readSingle_265 rfl ?_
        refine xiload hk dX4_readSingle_267 rfl ?_
        refine xcallV hk c_X0_addCode bX0_addCode kX4_126 dX4_readSingle_269 rfl ⟨_, _, _, _, rfl, rfl⟩ rfl (by omega) ⟨by decide, by decide⟩ (Nat.le_of_ble_eq_true rfl) (det ?_)
        refine xiload hk dX4_readSingle_272 rfl ?_
        refine xif_lt hk 281 dX4_readSingle_274 (by decide) (fun h274 => ?_) (fun h274 => ?_)
        · refine xiconst (v := 0) hk dX4_readSingle_281 (by decide) ?_
          refine xzret hk he dX4_readSingle_282 ⟨by decide, by decide⟩ (by first | with_reducible exact nar_b _ | rfl) ?_
          exact ⟨by simp [sinS, frU, curK, adv, b2i, *], by simp [sinS, frU, curK, adv, *]⟩
        · refine xiconst (v := 1) hk dX4_readSingle_277 (by decide) ?_
          refine xgoto hk 282 dX4_readSingle_278 (by decide) ?_
          refine xzret hk he dX4_readSingle_282 ⟨by decide, by decide⟩ (by first | with_reducible exact nar_b _ | rfl) ?_
          exact ⟨by simp [sinS, frU, curK, adv, b2i, *], by simp [sinS, frU, curK, adv, *]⟩
  by_cases hs11_4 : kd = 323
  · refine xlookup hk 60 dX4_readSingle_11 (by decide) (off := 49) (by rw [hs11_4]; decide +kernel) (by decide) ?_
    refine xaload_n hk dX4_readSingle_60 rfl ?_
    refine xsipush (v := 323) hk dX4_readSingle_61 (by decide) ?_
    refine xiload_n hk dX4_readSingle_64 rfl ?_
    refine xcallV hk c_X4_takeDeeper bX4_takeDeeper kX4_132 dX4_readSingle_65 rfl ⟨_, _, _, _, rfl, rfl⟩ rfl (by omega) ⟨by decide, by decide⟩ (Nat.le_of_ble_eq_true rfl) (det ?_)
    refine xif_eq hk 81 dX4_readSingle_68 (by decide) (fun h68 => ?_) (fun h68 => ?_)
    · rw [b2i_0] at h68
      refine xiconst (v := 0) hk dX4_readSingle_81 (by decide) ?_
      refine xzret hk he dX4_readSingle_82 ⟨by decide, by decide⟩ (by first | with_reducible exact nar_b _ | rfl) ?_
      exact ⟨by simp [sinS, frU, curK, adv, b2i, *], by simp [sinS, frU, curK, adv, *]⟩
    · rw [b2i_t] at h68
      refine xaload_n hk dX4_readSingle_71 rfl ?_
      refine xiload_n hk dX4_readSingle_72 rfl ?_
      refine xiconst (v := 1) hk dX4_readSingle_73 (by decide) ?_
      refine xiadd hk dX4_readSingle_74 ?_
      refine xcallV hk (hR (dp _ _ h68) _) bX4_readSingle kX4_129 dX4_readSingle_75 rfl ⟨_, _, _, _, rfl, rfl⟩ rfl (by omega) ⟨by decide, by decide⟩ (Nat.le_of_ble_eq_true rfl) (det ?_)
      refine xif_ne hk 83 dX4_readSingle_78 (by decide) (fun h78 => ?_) (fun h78 => ?_)
      · rw [b2i_t] at h78
        refine xaload_n hk dX4_readSingle_83 rfl ?_
        refine xgetR (ci := 4) (f := 1) hk dX4_readSingle_84 ⟨rfl, by decide, _, rfl, rfl⟩ kX4_22 ?_
        refine xsipush (v := 323) hk dX4_readSingle_87 (by decide) ?_
        refine xiconst (v := 0) hk dX4_readSingle_90 (by decide) ?_
        refine xiconst (v := 0) hk dX4_readSingle_91 (by decide) ?_
        refine xcallV hk c_X0_addCode bX0_addCode kX4_126 dX4_readSingle_92 rfl ⟨_, _, _, _, rfl, rfl⟩ rfl (by omega) ⟨by decide, by decide⟩ (Nat.le_of_ble_eq_true rfl) (det ?_)
        refine xiconst (v := 1) hk dX4_readSingle_95 (by decide) ?_
        refine xzret hk he dX4_readSingle_96 ⟨by decide, by decide⟩ (by first | with_reducible exact nar_b _ | rfl) ?_
        exact ⟨by simp [sinS, frU, curK, adv, b2i, *], by simp [sinS, frU, curK, adv, *]⟩
      · rw [b2i_0] at h78
        refine xiconst (v := 0) hk dX4_readSingle_81 (by decide) ?_
        refine xzret hk he dX4_readSingle_82 ⟨by decide, by decide⟩ (by first | with_reducible exact nar_b _ | rfl) ?_
        exact ⟨by simp [sinS, frU, curK, adv, b2i, *], by simp [sinS, frU, curK, adv, *]⟩
  refine xlookup hk 283 dX4_readSingle_11 (by decide) (off := 272) (by show Op.lookupswitch.offset [(91, 86), (319, 121), (320, 158), (321, 206), (323, 49)] 272 (Int32.toInt kd) = 272; rw [lv_osw (a := 91) hs11_0 (by decide), lv_osw (a := 319) hs11_1 (by decide), lv_osw (a := 320) hs11_2 (by decide), lv_osw (a := 321) hs11_3 (by decide), lv_osw (a := 323) hs11_4 (by decide)]; rfl) (by decide) ?_
  refine xaload_n hk dX4_readSingle_283 rfl ?_
  refine xiload_n hk dX4_readSingle_284 rfl ?_
  refine xcallV hk (hS _) bX4_readSum kX4_136 dX4_readSingle_285 rfl ⟨_, _, _, _, rfl, rfl⟩ rfl (by omega) ⟨by decide, by decide⟩ (Nat.le_of_ble_eq_true rfl) (det ?_)
  refine xif_ne hk 293 dX4_readSingle_288 (by decide) (fun h288 => ?_) (fun h288 => ?_)
  · rw [b2i_t] at h288
    refine xaload_n hk dX4_readSingle_293 rfl ?_
    refine xgetR (ci := 4) (f := 0) hk dX4_readSingle_294 ⟨rfl, by decide, _, rfl, rfl⟩ kX4_18 ?_
    refine xaload_n hk dX4_readSingle_297 rfl ?_
    refine xgetI (ci := 4) (f := 4) hk dX4_readSingle_298 ⟨rfl, by decide, _, rfl, rfl⟩ kX4_26 ?_
    refine xcallV hk c_X6_kindAt bX6_kindAt kX4_58 dX4_readSingle_301 rfl ⟨_, _, _, _, rfl, rfl⟩ rfl (by omega) ⟨by decide, by decide⟩ (Nat.le_of_ble_eq_true rfl) (det ?_)
    refine xistore hk dX4_readSingle_304 (by decide) ?_
    refine xiload hk dX4_readSingle_306 rfl ?_
    refine xcallS hk c_X4_isComparison bX4_isComparison kX4_139 dX4_readSingle_308 rfl rfl (by omega) ⟨by decide, by decide⟩ (Nat.le_of_ble_eq_true rfl) (det ?_)
    refine xif_ne hk 316 dX4_readSingle_311 (by decide) (fun h311 => ?_) (fun h311 => ?_)
    · rw [b2i_t] at h311
      refine xaload_n hk dX4_readSingle_316 rfl ?_
      refine xdup hk dX4_readSingle_317 rfl ?_
      refine xgetI (ci := 4) (f := 4) hk dX4_readSingle_318 ⟨rfl, by decide, _, rfl, rfl⟩ kX4_26 ?_
      refine xiconst (v := 1) hk dX4_readSingle_321 (by decide) ?_
      refine xiadd hk dX4_readSingle_322 ?_
      refine xputI (ci := 4) (f := 4) hk dX4_readSingle_323 ⟨rfl, by decide, _, rfl, rfl⟩ kX4_26 ⟨rfl, by decide +kernel⟩ ?_
      refine xaload_n hk dX4_readSingle_326 rfl ?_
      refine xiload_n hk dX4_readSingle_327 rfl ?_
      refine xcallV hk (hS _) bX4_readSum kX4_136 dX4_readSingle_328 rfl ⟨_, _, _, _, rfl, rfl⟩ rfl (by omega) ⟨by decide, by decide⟩ (Nat.le_of_ble_eq_true rfl) (det ?_)
      refine xif_ne hk 336 dX4_readSingle_331 (by decide) (fun h331 => ?_) (fun h331 => ?_)
      · rw [b2i_t] at h331
        refine xaload_n hk dX4_readSingle_336 rfl ?_
        refine xgetR (ci := 4) (f := 1) hk dX4_readSingle_337 ⟨rfl, by decide, _, rfl, rfl⟩ kX4_22 ?_
        refine xiload hk dX4_readSingle_340 rfl ?_
        refine xiconst (v := 0) hk dX4_readSingle_342 (by decide) ?_
        refine xiconst (v := 0) hk dX4_readSingle_343 (by decide) ?_
        refine xcallV hk c_X0_addCode bX0_addCode kX4_126 dX4_readSingle_344 rfl ⟨_, _, _, _, rfl, rfl⟩ rfl (by omega) ⟨by decide, by decide⟩ (Nat.le_of_ble_eq_true rfl) (det ?_)
        refine xiconst (v := 1) hk dX4_readSingle_347 (by decide) ?_
        refine xzret hk he dX4_readSingle_348 ⟨by decide, by decide⟩ (by first | with_reducible exact nar_b _ | rfl) ?_
        exact ⟨by simp [sinS, frU, curK, adv, b2i, *], by simp [sinS, frU, curK, adv, *]⟩
      · rw [b2i_0] at h331
        refine xiconst (v := 0) hk dX4_readSingle_334 (by decide) ?_
        refine xzret hk he dX4_readSingle_335 ⟨by decide, by decide⟩ (by first | with_reducible exact nar_b _ | rfl) ?_
        exact ⟨by simp [sinS, frU, curK, adv, b2i, *], by simp [sinS, frU, curK, adv, *]⟩
    · rw [b2i_0] at h311
      refine xiconst (v := 0) hk dX4_readSingle_314 (by decide) ?_
      refine xzret hk he dX4_readSingle_315 ⟨by decide, by decide⟩ (by first | with_reducible exact nar_b _ | rfl) ?_
      exact ⟨by simp [sinS, frU, curK, adv, b2i, *], by simp [sinS, frU, curK, adv, *]⟩
  · rw [b2i_0] at h288
    refine xiconst (v := 0) hk dX4_readSingle_291 (by decide) ?_
    refine xzret hk he dX4_readSingle_292 ⟨by decide, by decide⟩ (by first | with_reducible exact nar_b _ | rfl) ?_
    exact ⟨by simp [sinS, frU, curK, adv, b2i, *], by simp [sinS, frU, curK, adv, *]⟩
set_option maxHeartbeats 4000000 in
set_option maxRecDepth 100000 in
theorem c_sin {g : Gx} {a : Nat → Nat} : ∀ (f : Nat), f ≤ 8 → ∀ y : XS, Mx g yX4_readSingle cX4_readSingle 7 (some .boolean) (50 + 3 * f) 0 0 LF a y [.ref (a 34), .int (nI (8 - f))] (pr (some (.int (b2i (sinU f y).1))) (sinU f y).2) := by
  intro f
  induction f with
  | zero =>
    intro _ y
    exact c_X4_readSingleS (d := nI 8) (R := fun x => (false, x)) (V := valU 0) (rk := 47) (rs := 12) (fun h => absurd (show (8 : Int32) ≤ nI 8 by decide) h) (fun h => absurd (show (8 : Int32) ≤ nI 8 by decide) h) (by omega) (c_sum 0 (by omega)) (by omega)
  | succ f ih =>
    intro hf y
    have e : nI (7 - f) + 1 = nI (8 - f) := by rw [nI_1, show 7 - f + 1 = 8 - f by omega]
    have ih1 := ih (by omega)
    have hs := c_sum (g := g) (a := a) (f + 1) hf
    rw [show 8 - (f + 1) = 7 - f by omega] at hs ⊢
    exact c_X4_readSingleS (d := nI (7 - f)) (R := sinU f) (V := valU (f + 1)) (rk := 50 + 3 * f) (rs := 12 + 3 * (f + 1)) (fun _ z => by rw [e]; exact ih1 z) (fun _ z => by rw [e]; exact c_X4_readTest (R := opsU 324 (sinU f)) (fun z2 => c_X4_readBoth (R := sinU f) ih1 (by omega)) (by omega)) (by omega) hs (by omega)
set_option maxHeartbeats 4000000 in
set_option maxRecDepth 100000 in
theorem c_test {g : Gx} {a : Nat → Nat} : ∀ y : XS, Mx g yX4_readTest cX4_readTest 3 (some .boolean) 76 0 0 LF a y [.ref (a 34), .int (nI 0)] (pr (some (.int (b2i (testU (sinU 8) y).1))) (testU (sinU 8) y).2) := fun y =>
  Mx_rk (by omega) (c_X4_readTest (R := opsU 324 (sinU 8)) (fun z2 => c_X4_readBoth (R := sinU 8) (c_sin 8 (by omega)) (by omega)) (by omega))
