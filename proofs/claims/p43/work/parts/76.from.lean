theorem kX9_57 : Cond.methodLink RX9 57 Lib.Math.min.name ∈ GW := gw_mem 886 (by decide +kernel) (by decide +kernel)
theorem kX9_53 : Cond.methodLink RX9 53 yX9_opposite ∈ GW := gw_mem 883 (by decide +kernel) (by decide +kernel)
theorem bX9_opposite : CBs yX9_opposite cX9_opposite 1 (some .int) 1 := ⟨⟨gw_mem 885 (by decide +kernel) (by decide +kernel), gw_mem 5 (by decide +kernel) (by decide +kernel), by decide +kernel, by decide⟩, gw_mem 884 (by decide +kernel) (by decide +kernel)⟩
/-! What follows, by hand -/
theorem min_nI {u v : Nat} (hu : u < 2 ^ 31) (hv : v < 2 ^ 31) : minI (nI u) (nI v) = nI (min u v) := by
  unfold minI
  by_cases h : v < u
  · rw [if_pos ((nI_ltI hv hu).mpr h), Nat.min_eq_right (by omega)]
  · rw [if_neg (fun z => h ((nI_ltI hv hu).mp z)), Nat.min_eq_left (by omega)]
def FrE (lay : List Kd) (a : Nat → Nat) (x : XS) (b : Bok) (m st : Nat) : Option Value → List Kd → (Nat → Nat) → XS → Prop := fun v lay' a' x' =>
  v = some (.ref (a' lay.length)) ∧ lay' = lay ++ [.inr (0, 2 * bF b)] ∧ Keep lay a a' x x' (fun _ => False) ∧ ∀ c, c < 2 * bF b → x'.1 lay.length c = nI (fromD b m st c)
/-- the row that is made: D in it, all else as it was -/
def RowIs (x y : XS) (n N : Nat) (D : Nat → Nat) : Prop := (∀ i, i < n → ∀ j, y.1 i j = x.1 i j ∧ y.2 i j = x.2 i j) ∧ ∀ c, c < N → y.1 n c = nI (D c)
theorem RowIs.set {x y : XS} {n N w v : Nat} {D : Nat → Nat} (h : RowIs x y n N D) : RowIs x (setI y n w (nI v)) n N (fun c => if c = w then v else D c) := by
  refine ⟨fun i hi j => ⟨by rw [rdI_ne (by omega)]; exact (h.1 i hi j).1, (h.1 i hi j).2⟩, fun c hc => ?_⟩
  show _ = nI (if c = w then v else D c)
  rw [rdI]
  by_cases e : c = w
  · rw [if_pos ⟨rfl, e⟩, if_pos e]
  · rw [if_neg (fun z => e z.2), if_neg e]; exact h.2 c hc
theorem RowIs.rlx {x y : XS} {n N u w : Nat} {D : Nat → Nat} (h : RowIs x y n N D) : RowIs x (setI y n w (nI (min (D w) (D u + 1)))) n N (rlx D u w) := h.set
theorem RowIs.cong {x y : XS} {n N : Nat} {D D' : Nat → Nat} (h : RowIs x y n N D) (e : ∀ c, c < N → D c = D' c) : RowIs x y n N D' := ⟨h.1, fun c hc => by rw [h.2 c hc, e c hc]⟩
set_option maxHeartbeats 4000000 in
set_option maxRecDepth 100000 in
theorem c_X9_from {g : Gx} {a : Nat → Nat} {x : XS} {lay : List Kd} {q : Nat} {b : Bok} {m dy ca : Nat} {st : Nat} (hL : SimL lay q b) (hW : BW b) (hX : SimX x q b m dy ca) (hm : m < 2 ^ 32) (hC : Cl lay) (hst : st < 2 * bF b) : Mz g yX9_from cX9_from 10 (some (.array .int)) 9 1 10 lay a x [.ref (a q), .int (nI st)] (FrE lay a x b m st) := by
  refine Mz_of (by decide +kernel) (Nat.le_of_ble_eq_true rfl) ?_
  intro k hk he hg
  subst hg

  have hF := hW.1
  have hS := hW.2.1
  have hlt := hL.lt
  have n1 := nI_pos (n := 2 * bF b) (by omega)
  have n2 := nI_clamp (n := 2 * bF b) (by omega)
  refine xiconst (v := 2) hk dX9_from_0 (by decide) ?_
  refine xaload_n hk dX9_from_1 rfl ?_
  refine xgetI (ci := 9) (f := 0) hk dX9_from_2 ⟨rfl, by decide, _, hL.1, rfl⟩ kX9_19 ?_
  rw [hX.1.1]
  refine ximul hk dX9_from_5 ?_
  rw [two_nI]
  refine xnewI (N := 2 * bF b) hk dX9_from_6 n1 n2 (Nat.le_trans (Nat.mul_le_mul_right _ (show 2 * bF b ≤ 100 by omega)) (by decide)) (by omega) (by omega) (okR_new hC) (fun a1 h1 => ?_)
  rw [← h1 q (by omega)]
  have hL1 : SimL (lay ++ [.inr (0, 2 * bF b)]) q b := hL.app
  have simY : ∀ y : XS, (∀ i, i < lay.length → ∀ j, y.1 i j = x.1 i j ∧ y.2 i j = x.2 i j) → SimX y q b m dy ca := fun y hy => hX.of (fun i j h3 h4 => (hy i (by omega) j).1)
  have l3 : ∀ (n j : Nat) (v : Int32) (y : XS), 2 * bF b - j < n → v = nI j → j ≤ 2 * bF b → RowIs x y lay.length (2 * bF b) (fun c => if c < j then fromD b m st c else runR b m (2 * bF b) (D0 st) c) → Wx k (0 + 1) (0 + 2 * bF b) (lay ++ [.inr (0, 2 * bF b)]) a1 y 196 [(0, .ref (a1 q)), (1, .int (nI st)), (2, .ref (a1 lay.length)), (3, .int v)] [] := by
    intro n
    induction n with
    | zero => intro j v y h; omega
    | succ n ih =>
      intro j v y hn hv hj hR
      subst hv
      skip
      refine xiload_n hk dX9_from_196 rfl ?_
      refine xaload_n hk dX9_from_197 rfl ?_
      refine xalen (v := nI (2 * bF b)) hk dX9_from_198 app_n (by decide) rfl ?_
      refine xicmp_ge hk 222 dX9_from_199 (by decide) (fun h199 => ?_) (fun h199 => ?_)
      · rw [nI_leI (by omega) (by omega)] at h199
        obtain rfl : j = 2 * bF b := by omega
        refine xaload_n hk dX9_from_222 rfl ?_
        refine xaretZ hk he dX9_from_223 (Or.inr ⟨_, rfl⟩) ⟨by omega, by omega⟩ ?_
        exact ⟨rfl, rfl, ⟨fun j hj => h1 j (by omega), fun i hi _ j => hR.1 i hi j⟩, fun c hc => (hR.2 c hc).trans (by dsimp only; rw [if_pos hc])⟩
      · rw [nI_leI (by omega) (by omega)] at h199
        have hj2 : j < 2 * bF b := by omega
        refine xaload_n hk dX9_from_202 rfl ?_
        refine xiload_n hk dX9_from_203 rfl ?_
        refine xiald hk dX9_from_204 app_n (vp_in_nI (by omega) (by omega)) ?_
        rw [nI_clamp (show j < 2 ^ 31 by omega), show y.1 lay.length j = nI (runR b m (2 * bF b) (D0 st) j) from (hR.2 j hj2).trans (by dsimp only; rw [if_neg (Nat.lt_irrefl j)])]
        have hb9 := (runR_sn hW hm (D0_sn (b := b) (m := m) (st := st)) (2 * bF b) j).1
        refine xbipush (v := 99) hk dX9_from_205 (by decide) ?_
        refine xicmp_le hk 216 dX9_from_207 (by decide) (fun h207 => ?_) (fun h207 => ?_)
        · rw [show (99 : Int32) = nI 99 from rfl, nI_leI (by omega) (by decide)] at h207
          have g207 : ¬ 99 < runR b m (2 * bF b) (D0 st) j := by omega
          refine xiinc hk dX9_from_216 rfl (by decide) rfl ?_
          refine xgoto hk 196 dX9_from_219 (by decide) ?_
          refine xsub [(0, _), (1, _), (2, _), (3, _)] rfl ?_
          refine ih (j + 1) _ _ (by omega) (nI_inc j) (by omega) ?_
          first
            | refine RowIs.cong (RowIs.set (v := 999) hR) (fun c hc => ?_)
              try dsimp only
              by_cases e : c = j
              · rw [if_pos e, if_pos (by omega), e, fromD, if_pos g207]
              · rw [if_neg e]
                by_cases e2 : c < j
                · rw [if_pos e2, if_pos (by omega)]
                · rw [if_neg e2, if_neg (by omega)]
            | refine RowIs.cong hR (fun c hc => ?_)
              try dsimp only
              by_cases e : c = j
              · rw [if_neg (by omega), if_pos (by omega), e, fromD, if_neg g207]
              · by_cases e2 : c < j
                · rw [if_pos e2, if_pos (by omega)]
                · rw [if_neg e2, if_neg (by omega)]
        · rw [show (99 : Int32) = nI 99 from rfl, nI_leI (by omega) (by decide)] at h207
          have g207 : 99 < runR b m (2 * bF b) (D0 st) j := by omega
          refine xaload_n hk dX9_from_210 rfl ?_
          refine xiload_n hk dX9_from_211 rfl ?_
          refine xsipush (v := 999) hk dX9_from_212 (by decide) ?_
          refine xiast hk dX9_from_215 app_n (vp_in_nI (by omega) (by omega)) ?_
          rw [nI_clamp (show j < 2 ^ 31 by omega)]
          refine xiinc hk dX9_from_216 rfl (by decide) rfl ?_
          refine xgoto hk 196 dX9_from_219 (by decide) ?_
          refine xsub [(0, _), (1, _), (2, _), (3, _)] rfl ?_
          refine ih (j + 1) _ _ (by omega) (nI_inc j) (by omega) ?_
          first
            | refine RowIs.cong (RowIs.set (v := 999) hR) (fun c hc => ?_)
              try dsimp only
              by_cases e : c = j
              · rw [if_pos e, if_pos (by omega), e, fromD, if_pos g207]
              · rw [if_neg e]
                by_cases e2 : c < j
                · rw [if_pos e2, if_pos (by omega)]
                · rw [if_neg e2, if_neg (by omega)]
            | refine RowIs.cong hR (fun c hc => ?_)
              try dsimp only
              by_cases e : c = j
              · rw [if_neg (by omega), if_pos (by omega), e, fromD, if_neg g207]
              · by_cases e2 : c < j
                · rw [if_pos e2, if_pos (by omega)]
                · rw [if_neg e2, if_neg (by omega)]
  have l2 : ∀ t, t < 2 * bF b → (∀ y' : XS, RowIs x y' lay.length (2 * bF b) (runR b m (t + 1) (D0 st)) → Wx k (0 + 1) (0 + 2 * bF b) (lay ++ [.inr (0, 2 * bF b)]) a1 y' 40 [(0, .ref (a1 q)), (1, .int (nI st)), (2, .ref (a1 lay.length)), (3, .int (nI (t + 1)))] []) → ∀ (n j : Nat) (v : Int32) (y : XS), bS b - j < n → v = nI j → j ≤ bS b → RowIs x y lay.length (2 * bF b) (passR b m j (runR b m t (D0 st))) → Wx k (0 + 1) (0 + 2 * bF b) (lay ++ [.inr (0, 2 * bF b)]) a1 y 60 [(0, .ref (a1 q)), (1, .int (nI st)), (2, .ref (a1 lay.length)), (3, .int (nI t)), (4, .ref (a1 (q + 1))), (5, .int (nI (bS b))), (6, .int v)] [] := by
    intro t ht kk n
    induction n with
    | zero => intro j v y h; omega
    | succ n ih =>
      intro j v y hn hv hj hR
      subst hv
      have hY := simY y hR.1
      refine xiload hk dX9_from_60 rfl ?_
      refine xiload hk dX9_from_62 rfl ?_
      refine xicmp_ge hk 188 dX9_from_64 (by decide) (fun h64 => ?_) (fun h64 => ?_)
      · rw [nI_leI (by omega) (by omega)] at h64
        obtain rfl : j = bS b := by omega
        refine xiinc hk dX9_from_188 rfl (by decide) rfl ?_
        refine xgoto hk 40 dX9_from_191 (by decide) ?_
        refine xsub [(0, _), (1, _), (2, _), (3, _)] rfl ?_
        rw [nI_inc]
        exact kk y hR
      · rw [nI_leI (by omega) (by omega)] at h64
        have hj2 : j < bS b := by omega
        refine xaload hk dX9_from_67 rfl ?_
        refine xiload hk dX9_from_69 rfl ?_
        refine xaald hk dX9_from_71 hL1.2.1 (rows_in hj2 (by omega)) (rows_at hj2 (by omega)) ?_
        have hY0 := hY.2.1 j hj2
        have B := hW.2.2.1 j hj2
        have LR := hW.lr j hj2
        have x1 := x1_lt (bF b) (by omega) _ LR.1
        have x2 := x1_lt (bF b) (by omega) _ LR.2
        have sn := passR_sn hW hm (runR_sn hW hm (D0_sn (b := b) (m := m) (st := st)) t) j hj
        refine xastore hk dX9_from_72 (by decide) ?_
        refine xaload hk dX9_from_74 rfl ?_
        refine xiconst (v := 3) hk dX9_from_76 (by decide) ?_
        refine xiald hk dX9_from_77 (hL1.2.2.2.1 j hj2) (show vp_in (nI 3) 4 from vp_in_nI (by decide) (by decide)) ?_
        rw [show (3 : Int32).toNatClampNeg = 3 from rfl, hY0.2.2.2]
        refine xif_ne hk 84 dX9_from_78 (by decide) (fun h78 => ?_) (fun h78 => ?_)
        · rw [b2i_t] at h78
          have hb := h78
          have kn : ∀ y2 : XS, RowIs x y2 lay.length (2 * bF b) (rlx (rlx (passR b m j (runR b m t (D0 st))) (bl b j ^^^ 1) (br b j)) (br b j ^^^ 1) (bl b j)) → Wx k (0 + 1) (0 + 2 * bF b) (lay ++ [.inr (0, 2 * bF b)]) a1 y2 182 [(0, .ref (a1 q)), (1, .int (nI st)), (2, .ref (a1 lay.length)), (3, .int (nI t)), (4, .ref (a1 (q + 1))), (5, .int (nI (bS b))), (6, .int (nI j))] [] := by
            intro y2 hR2
            refine xiinc hk dX9_from_182 rfl (by decide) rfl ?_
            refine xgoto hk 60 dX9_from_185 (by decide) ?_
            refine xsub [(0, _), (1, _), (2, _), (3, _), (4, _), (5, _), (6, _)] rfl ?_
            refine ih (j + 1) _ _ (by omega) (nI_inc j) (by omega) ?_
            rw [passR, stR, if_pos hb]
            exact hR2
          have k137 : ∀ w, w = br b j → Wx k (0 + 1) (0 + 2 * bF b) (lay ++ [.inr (0, 2 * bF b)]) a1 y 137 [(0, .ref (a1 q)), (1, .int (nI st)), (2, .ref (a1 lay.length)), (3, .int (nI t)), (4, .ref (a1 (q + 1))), (5, .int (nI (bS b))), (6, .int (nI j)), (7, .ref (a1 (q + 3 + j))), (8, .int (nI (bl b j ^^^ 1)))] [.int (nI w)] := by
            intro w hw
            subst hw
            refine xistore hk dX9_from_137 (by decide) ?_
            refine xaload_n hk dX9_from_139 rfl ?_
            refine xiload hk dX9_from_140 rfl ?_
            refine xaload_n hk dX9_from_142 rfl ?_
            refine xiload hk dX9_from_143 rfl ?_
            refine xiald hk dX9_from_145 app_n (vp_in_nI (by omega) (by omega)) ?_
            rw [nI_clamp (show br b j < 2 ^ 31 by omega), hR.2 _ (by omega)]
            refine xaload_n hk dX9_from_146 rfl ?_
            refine xiload hk dX9_from_147 rfl ?_
            refine xiald hk dX9_from_149 app_n (vp_in_nI (by omega) (by omega)) ?_
            rw [nI_clamp (show bl b j ^^^ 1 < 2 ^ 31 by omega), hR.2 _ (by omega)]
            refine xiconst (v := 1) hk dX9_from_150 (by decide) ?_
            refine xiadd hk dX9_from_151 ?_
            rw [nI_1]
            refine xmmin hk dX9_from_152 kX9_57 mw_min (by omega) ⟨by omega, by omega⟩ (Nat.le_of_ble_eq_true rfl) ?_
            rw [min_nI (by have := (sn (br b j)).1; omega) (by have := (sn (bl b j ^^^ 1)).1; omega)]
            refine xiast hk dX9_from_155 app_n (vp_in_nI (by omega) (by omega)) ?_
            rw [nI_clamp (show br b j < 2 ^ 31 by omega)]
            have hR1 := hR.rlx (u := bl b j ^^^ 1) (w := br b j)
            have sn1 := rlx_sn hW sn ((st_edge hm).mpr ⟨j, hj2, hb, Or.inl ⟨rfl, rfl⟩⟩)
            refine xaload_n hk dX9_from_156 rfl ?_
            refine xiload hk dX9_from_157 rfl ?_
            refine xcallS hk (c_X9_opposite (c := bl b j ^^^ 1) (by omega)) bX9_opposite kX9_53 dX9_from_159 rfl rfl (by omega) ⟨by omega, by omega⟩ (Nat.le_of_ble_eq_true rfl) (det ?_)
            rw [x1x1 (bl b j) (by omega)]
            refine xaload_n hk dX9_from_162 rfl ?_
            refine xiload hk dX9_from_163 rfl ?_
            refine xcallS hk (c_X9_opposite (c := bl b j ^^^ 1) (by omega)) bX9_opposite kX9_53 dX9_from_165 rfl rfl (by omega) ⟨by omega, by omega⟩ (Nat.le_of_ble_eq_true rfl) (det ?_)
            rw [x1x1 (bl b j) (by omega)]
            refine xiald hk dX9_from_168 app_n (vp_in_nI (by omega) (by omega)) ?_
            rw [nI_clamp (show bl b j < 2 ^ 31 by omega), hR1.2 _ (by omega)]
            refine xaload_n hk dX9_from_169 rfl ?_
            refine xiload hk dX9_from_170 rfl ?_
            refine xcallS hk (c_X9_opposite (c := br b j) (by omega)) bX9_opposite kX9_53 dX9_from_172 rfl rfl (by omega) ⟨by omega, by omega⟩ (Nat.le_of_ble_eq_true rfl) (det ?_)
            refine xiald hk dX9_from_175 app_n (vp_in_nI (by omega) (by omega)) ?_
            rw [nI_clamp (show br b j ^^^ 1 < 2 ^ 31 by omega), hR1.2 _ (by omega)]
            refine xiconst (v := 1) hk dX9_from_176 (by decide) ?_
            refine xiadd hk dX9_from_177 ?_
            rw [nI_1]
            refine xmmin hk dX9_from_178 kX9_57 mw_min (by omega) ⟨by omega, by omega⟩ (Nat.le_of_ble_eq_true rfl) ?_
            rw [min_nI (by have := (sn1 (bl b j)).1; omega) (by have := (sn1 (br b j ^^^ 1)).1; omega)]
            refine xiast hk dX9_from_181 app_n (vp_in_nI (by omega) (by omega)) ?_
            rw [nI_clamp (show bl b j < 2 ^ 31 by omega)]
            have hR2 := hR1.rlx (u := br b j ^^^ 1) (w := bl b j)
            refine xsub [(0, _), (1, _), (2, _), (3, _), (4, _), (5, _), (6, _)] rfl ?_
            exact kn _ hR2
          have k113 : ∀ w, w = bl b j ^^^ 1 → Wx k (0 + 1) (0 + 2 * bF b) (lay ++ [.inr (0, 2 * bF b)]) a1 y 113 [(0, .ref (a1 q)), (1, .int (nI st)), (2, .ref (a1 lay.length)), (3, .int (nI t)), (4, .ref (a1 (q + 1))), (5, .int (nI (bS b))), (6, .int (nI j)), (7, .ref (a1 (q + 3 + j)))] [.int (nI w)] := by
            intro w hw
            subst hw
            refine xistore hk dX9_from_113 (by decide) ?_
            refine xaload hk dX9_from_115 rfl ?_
            refine xiconst (v := 0) hk dX9_from_117 (by decide) ?_
            refine xiald hk dX9_from_118 (hL1.2.2.2.1 j hj2) (show vp_in (nI 0) 4 from vp_in_nI (by decide) (by decide)) ?_
            rw [show (0 : Int32).toNatClampNeg = 0 from rfl, hY0.1]
            refine xiconst (v := 2) hk dX9_from_119 (by decide) ?_
            refine xicmp_ne hk 133 dX9_from_120 (by decide) (fun h120 => ?_) (fun h120 => ?_)
            · rw [show (2 : Int32) = nI 2 from rfl, nI_eq (by omega) (by decide)] at h120
              refine xaload hk dX9_from_133 rfl ?_
              refine xiconst (v := 2) hk dX9_from_135 (by decide) ?_
              refine xiald hk dX9_from_136 (hL1.2.2.2.1 j hj2) (show vp_in (nI 2) 4 from vp_in_nI (by decide) (by decide)) ?_
              rw [show (2 : Int32).toNatClampNeg = 2 from rfl, hY0.2.2.1]
              exact k137 _ (by unfold br; first | rw [if_pos h120] | rw [if_neg h120])
            · rw [show (2 : Int32) = nI 2 from rfl, nI_eq (by omega) (by decide)] at h120
              refine xaload hk dX9_from_123 rfl ?_
              refine xiconst (v := 2) hk dX9_from_125 (by decide) ?_
              refine xiald hk dX9_from_126 (hL1.2.2.2.1 j hj2) (show vp_in (nI 2) 4 from vp_in_nI (by decide) (by decide)) ?_
              rw [show (2 : Int32).toNatClampNeg = 2 from rfl, hY0.2.2.1]
              refine xcallS hk (c_X9_opposite (c := b2 b j) (by omega)) bX9_opposite kX9_53 dX9_from_127 rfl rfl (by omega) ⟨by omega, by omega⟩ (Nat.le_of_ble_eq_true rfl) (det ?_)
              refine xgoto hk 137 dX9_from_130 (by decide) ?_
              exact k137 _ (by unfold br; first | rw [if_pos h120] | rw [if_neg h120])
          refine xaload hk dX9_from_84 rfl ?_
          refine xiconst (v := 0) hk dX9_from_86 (by decide) ?_
          refine xiald hk dX9_from_87 (hL1.2.2.2.1 j hj2) (show vp_in (nI 0) 4 from vp_in_nI (by decide) (by decide)) ?_
          rw [show (0 : Int32).toNatClampNeg = 0 from rfl, hY0.1]
          refine xif_eq hk 99 dX9_from_88 (by decide) (fun h88 => ?_) (fun h88 => ?_)
          · rw [show (0 : Int32) = nI 0 from rfl, nI_eq (by omega) (by decide)] at h88
            refine xaload hk dX9_from_99 rfl ?_
            refine xiconst (v := 1) hk dX9_from_101 (by decide) ?_
            refine xiald hk dX9_from_102 (hL1.2.2.2.1 j hj2) (show vp_in (nI 1) 4 from vp_in_nI (by decide) (by decide)) ?_
            rw [show (1 : Int32).toNatClampNeg = 1 from rfl, hY0.2.1]
            refine xgoto hk 113 dX9_from_103 (by decide) ?_
            exact k113 _ (by unfold bl; first | rw [if_pos (Or.inl h88), x1x1 _ (by omega)] | rw [if_pos (Or.inr h96), x1x1 _ (by omega)] | rw [if_neg (by omega)])
          · rw [show (0 : Int32) = nI 0 from rfl, nI_eq (by omega) (by decide)] at h88
            refine xaload hk dX9_from_91 rfl ?_
            refine xiconst (v := 0) hk dX9_from_93 (by decide) ?_
            refine xiald hk dX9_from_94 (hL1.2.2.2.1 j hj2) (show vp_in (nI 0) 4 from vp_in_nI (by decide) (by decide)) ?_
            rw [show (0 : Int32).toNatClampNeg = 0 from rfl, hY0.1]
            refine xiconst (v := 2) hk dX9_from_95 (by decide) ?_
            refine xicmp_ne hk 106 dX9_from_96 (by decide) (fun h96 => ?_) (fun h96 => ?_)
            · rw [show (2 : Int32) = nI 2 from rfl, nI_eq (by omega) (by decide)] at h96
              refine xaload hk dX9_from_106 rfl ?_
              refine xiconst (v := 1) hk dX9_from_108 (by decide) ?_
              refine xiald hk dX9_from_109 (hL1.2.2.2.1 j hj2) (show vp_in (nI 1) 4 from vp_in_nI (by decide) (by decide)) ?_
              rw [show (1 : Int32).toNatClampNeg = 1 from rfl, hY0.2.1]
              refine xcallS hk (c_X9_opposite (c := b1 b j) (by omega)) bX9_opposite kX9_53 dX9_from_110 rfl rfl (by omega) ⟨by omega, by omega⟩ (Nat.le_of_ble_eq_true rfl) (det ?_)
              exact k113 _ (by unfold bl; first | rw [if_pos (Or.inl h88), x1x1 _ (by omega)] | rw [if_pos (Or.inr h96), x1x1 _ (by omega)] | rw [if_neg (by omega)])
            · rw [show (2 : Int32) = nI 2 from rfl, nI_eq (by omega) (by decide)] at h96
              refine xaload hk dX9_from_99 rfl ?_
              refine xiconst (v := 1) hk dX9_from_101 (by decide) ?_
              refine xiald hk dX9_from_102 (hL1.2.2.2.1 j hj2) (show vp_in (nI 1) 4 from vp_in_nI (by decide) (by decide)) ?_
              rw [show (1 : Int32).toNatClampNeg = 1 from rfl, hY0.2.1]
              refine xgoto hk 113 dX9_from_103 (by decide) ?_
              exact k113 _ (by unfold bl; first | rw [if_pos (Or.inl h88), x1x1 _ (by omega)] | rw [if_pos (Or.inr h96), x1x1 _ (by omega)] | rw [if_neg (by omega)])
        · rw [b2i_0] at h78
          have hb := h78
          refine xgoto hk 182 dX9_from_81 (by decide) ?_
          refine xiinc hk dX9_from_182 rfl (by decide) rfl ?_
          refine xgoto hk 60 dX9_from_185 (by decide) ?_
          refine xsub [(0, _), (1, _), (2, _), (3, _), (4, _), (5, _), (6, _)] rfl ?_
          refine ih (j + 1) _ _ (by omega) (nI_inc j) (by omega) ?_
          rw [passR, stR, if_neg (by rw [hb]; decide)]
          exact hR
  have l1 : ∀ (n t : Nat) (v : Int32) (y : XS), 2 * bF b - t < n → v = nI t → t ≤ 2 * bF b → RowIs x y lay.length (2 * bF b) (runR b m t (D0 st)) → Wx k (0 + 1) (0 + 2 * bF b) (lay ++ [.inr (0, 2 * bF b)]) a1 y 40 [(0, .ref (a1 q)), (1, .int (nI st)), (2, .ref (a1 lay.length)), (3, .int v)] [] := by
    intro n
    induction n with
    | zero => intro t v y h; omega
    | succ n ih =>
      intro t v y hn hv hj hR
      subst hv
      have hY := simY y hR.1
      refine xiload_n hk dX9_from_40 rfl ?_
      refine xaload_n hk dX9_from_41 rfl ?_
      refine xalen (v := nI (2 * bF b)) hk dX9_from_42 app_n (by decide) rfl ?_
      refine xicmp_ge hk 194 dX9_from_43 (by decide) (fun h43 => ?_) (fun h43 => ?_)
      · rw [nI_leI (by omega) (by omega)] at h43
        obtain rfl : t = 2 * bF b := by omega
        refine xiconst (v := 0) hk dX9_from_194 (by decide) ?_
        refine xistore_n hk dX9_from_195 (by decide) ?_
        refine xsub [(0, _), (1, _), (2, _), (3, _)] rfl ?_
        exact l3 _ 0 _ y (Nat.lt_succ_self _) rfl (by omega) (RowIs.cong hR (fun c hc => by rw [if_neg (by omega)]))
      · rw [nI_leI (by omega) (by omega)] at h43
        refine xaload_n hk dX9_from_46 rfl ?_
        refine xgetR (ci := 9) (f := 1) (j := q + 1) hk dX9_from_47 ⟨rfl, by decide, _, hL1.1, rfl⟩ kX9_9 ?_
        refine xastore hk dX9_from_50 (by decide) ?_
        refine xaload hk dX9_from_52 rfl ?_
        refine xalenR (v := nI (bS b)) hk dX9_from_54 hL1.2.1 (by rw [rows_len]; rfl) ?_
        refine xistore hk dX9_from_55 (by decide) ?_
        refine xiconst (v := 0) hk dX9_from_57 (by decide) ?_
        refine xistore hk dX9_from_58 (by decide) ?_
        refine xsub [(0, _), (1, _), (2, _), (3, _), (4, _), (5, _), (6, _)] rfl ?_
        exact l2 t (by omega) (fun y2 h2 => ih (t + 1) _ y2 (by omega) rfl (by omega) h2) _ 0 _ y (Nat.lt_succ_self _) rfl (by omega) hR
  have l0 : ∀ (n j : Nat) (v : Int32) (y : XS), 2 * bF b - j < n → v = nI j → j ≤ 2 * bF b → RowIs x y lay.length (2 * bF b) (fun c => if c < j then D0 st c else 0) → Wx k (0 + 1) (0 + 2 * bF b) (lay ++ [.inr (0, 2 * bF b)]) a1 y 11 [(0, .ref (a1 q)), (1, .int (nI st)), (2, .ref (a1 lay.length)), (3, .int v)] [] := by
    intro n
    induction n with
    | zero => intro j v y h; omega
    | succ n ih =>
      intro j v y hn hv hj hR
      subst hv
      skip
      refine xiload_n hk dX9_from_11 rfl ?_
      refine xaload_n hk dX9_from_12 rfl ?_
      refine xalen (v := nI (2 * bF b)) hk dX9_from_13 app_n (by decide) rfl ?_
      refine xicmp_ge hk 38 dX9_from_14 (by decide) (fun h14 => ?_) (fun h14 => ?_)
      · rw [nI_leI (by omega) (by omega)] at h14
        obtain rfl : j = 2 * bF b := by omega
        refine xiconst (v := 0) hk dX9_from_38 (by decide) ?_
        refine xistore_n hk dX9_from_39 (by decide) ?_
        refine xsub [(0, _), (1, _), (2, _), (3, _)] rfl ?_
        exact l1 _ 0 _ y (Nat.lt_succ_self _) rfl (by omega) (RowIs.cong hR (fun c hc => by rw [if_pos hc]; rfl))
      · rw [nI_leI (by omega) (by omega)] at h14
        have hj2 : j < 2 * bF b := by omega
        refine xaload_n hk dX9_from_17 rfl ?_
        refine xiload_n hk dX9_from_18 rfl ?_
        refine xiload_n hk dX9_from_19 rfl ?_
        refine xiload_n hk dX9_from_20 rfl ?_
        refine xicmp_ne hk 28 dX9_from_21 (by decide) (fun h21 => ?_) (fun h21 => ?_)
        · have g21 : ¬ j = st := fun z => h21 (by rw [z])
          refine xsipush (v := 999) hk dX9_from_28 (by decide) ?_
          refine xiast hk dX9_from_31 app_n (vp_in_nI (by omega) (by omega)) ?_
          rw [nI_clamp (show j < 2 ^ 31 by omega)]
          refine xiinc hk dX9_from_32 rfl (by decide) rfl ?_
          refine xgoto hk 11 dX9_from_35 (by decide) ?_
          refine xsub [(0, _), (1, _), (2, _), (3, _)] rfl ?_
          refine ih (j + 1) _ _ (by omega) (nI_inc j) (by omega) ?_
          first
            | refine RowIs.cong (RowIs.set (v := 0) hR) (fun c hc => ?_)
              try dsimp only
              by_cases e : c = j
              · rw [if_pos e, if_pos (by omega), e, D0, if_pos g21]
              · rw [if_neg e]
                by_cases e2 : c < j
                · rw [if_pos e2, if_pos (by omega)]
                · rw [if_neg e2, if_neg (by omega)]
            | refine RowIs.cong (RowIs.set (v := 999) hR) (fun c hc => ?_)
              try dsimp only
              by_cases e : c = j
              · rw [if_pos e, if_pos (by omega), e, D0, if_neg g21]
              · rw [if_neg e]
                by_cases e2 : c < j
                · rw [if_pos e2, if_pos (by omega)]
                · rw [if_neg e2, if_neg (by omega)]
        · have g21 : j = st := (nI_eq (by omega) (by omega)).mp h21
          refine xiconst (v := 0) hk dX9_from_24 (by decide) ?_
          refine xgoto hk 31 dX9_from_25 (by decide) ?_
          refine xiast hk dX9_from_31 app_n (vp_in_nI (by omega) (by omega)) ?_
          rw [nI_clamp (show j < 2 ^ 31 by omega)]
          refine xiinc hk dX9_from_32 rfl (by decide) rfl ?_
          refine xgoto hk 11 dX9_from_35 (by decide) ?_
          refine xsub [(0, _), (1, _), (2, _), (3, _)] rfl ?_
          refine ih (j + 1) _ _ (by omega) (nI_inc j) (by omega) ?_
          first
            | refine RowIs.cong (RowIs.set (v := 0) hR) (fun c hc => ?_)
              try dsimp only
              by_cases e : c = j
              · rw [if_pos e, if_pos (by omega), e, D0, if_pos g21]
              · rw [if_neg e]
                by_cases e2 : c < j
                · rw [if_pos e2, if_pos (by omega)]
                · rw [if_neg e2, if_neg (by omega)]
            | refine RowIs.cong (RowIs.set (v := 999) hR) (fun c hc => ?_)
              try dsimp only
              by_cases e : c = j
              · rw [if_pos e, if_pos (by omega), e, D0, if_neg g21]
              · rw [if_neg e]
                by_cases e2 : c < j
                · rw [if_pos e2, if_pos (by omega)]
                · rw [if_neg e2, if_neg (by omega)]
  refine xastore_n hk dX9_from_8 (by decide) ?_
  refine xiconst (v := 0) hk dX9_from_9 (by decide) ?_
  refine xistore_n hk dX9_from_10 (by decide) ?_
  refine xsub [(0, _), (1, _), (2, _), (3, _)] rfl ?_
  exact l0 _ 0 _ _ (Nat.lt_succ_self _) rfl (by omega) ⟨fun i hi j => clr_ne (by omega) j, fun c hc => by dsimp only; rw [(clr_eq c).1, if_neg (by omega)]; rfl⟩
