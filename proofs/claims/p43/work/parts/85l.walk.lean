theorem bL_book : CBs yL_book cL_book 10 (some (.object "FeudBookLaw$Sim")) 3 := ⟨⟨gw_mem 1136 (by decide +kernel) (by decide +kernel), gw_mem 0 (by decide +kernel) (by decide +kernel), by decide +kernel, by decide⟩, gw_mem 1135 (by decide +kernel) (by decide +kernel)⟩
theorem kL_102 : Cond.methodLinkNest RL 102 yX9_init "FeudBookLaw" ∈ NW := nw_mem 1138 (by decide +kernel) rfl
theorem kL_103 : Cond.methodLink RL 103 yL_cell ∈ GW := gw_mem 938 (by decide +kernel) (by decide +kernel)
theorem kL_107 : Cond.methodLink RL 107 yL_below ∈ GW := gw_mem 934 (by decide +kernel) (by decide +kernel)
theorem kL_111 : Cond.fieldLink RL 111 "FeudBookLaw$Sim" "families" "I" ∈ GW := gw_mem 1143 (by decide +kernel) (by decide +kernel)
theorem kL_137 : Cond.methodLink RL 137 yL_test ∈ GW := gw_mem 1399 (by decide +kernel) (by decide +kernel)
theorem kL_140 : Cond.fieldLink RL 140 "FeudBookLaw$Sim" "orders" "[[I" ∈ GW := gw_mem 1147 (by decide +kernel) (by decide +kernel)
theorem kL_129 : Cond.methodLink RL 129 yX9_with ∈ GW := gw_mem 1394 (by decide +kernel) (by decide +kernel)
theorem kL_119 : Cond.methodLink RL 119 yL_told ∈ GW := gw_mem 1295 (by decide +kernel) (by decide +kernel)
theorem kL_125 : Cond.fieldLink RL 125 "FeudBookLaw$Sim" "statements" "[[I" ∈ GW := gw_mem 1145 (by decide +kernel) (by decide +kernel)
/-! The walk of book -/
theorem okb0 {lay : List Kd} {qo vo S M : Nat} (hC : Cl lay) (hO : Own lay qo vo) (hvl : vo < lay.length) : Okb lay qo vo S M [] := fun c => by
  rw [List.append_nil]; exact ⟨LB_cl hC, LB_own hO hvl⟩
theorem okb1 {lay : List Kd} {qo vo S M n w : Nat} (hC : Cl lay) (hO : Own lay qo vo) (hvl : vo < lay.length) : Okb lay qo vo S M [.inr (0, w), .inl (10, [lay.length + (3 + S + M) + 1 + 4, 0, 0, 0]), .inr (2, n)] := fun c => by
  have e : LB lay vo c S M ++ [.inr (0, w), .inl (10, [lay.length + (3 + S + M) + 1 + 4, 0, 0, 0]), .inr (2, n)] = (LB lay vo c S M ++ [(.inr (0, w) : Kd)]) ++ [.inl (10, [(LB lay vo c S M ++ [(.inr (0, w) : Kd)]).length + 4, 0, 0, 0]), .inr (2, n)] := by
    rw [List.length_append, LB_len, List.append_assoc]; rfl
  rw [e]
  exact ⟨cl_str2 (LB_cl hC).appR, ((LB_own hO hvl).appR).appS (by rw [List.length_append, LB_len]; omega)⟩
theorem okb2 {lay : List Kd} {qo vo S M w : Nat} (hC : Cl lay) (hO : Own lay qo vo) (hvl : vo < lay.length) : Okb lay qo vo S M [.inr (0, w)] := fun c => ⟨(LB_cl hC).appR, (LB_own hO hvl).appR⟩
def own2 (x : XS) (p k c : Nat) : XS := setI (setI (clr x p) p 0 (nI k)) p 1 (nI c)
theorem own2_o {x : XS} {p k c i : Nat} (h : i ≠ p) (j : Nat) : (own2 x p k c).1 i j = x.1 i j ∧ (own2 x p k c).2 i j = x.2 i j := ⟨by simp [own2, setI, clr, h], by simp [own2, setI, clr, h]⟩
def own4 (x : XS) (p k c d : Nat) : XS := setI (setI (own2 x p k c) p 2 (nI d)) p 3 1
theorem own4_at {x : XS} {p k c d : Nat} : (own4 x p k c d).1 p 0 = nI k ∧ (own4 x p k c d).1 p 1 = nI c ∧ (own4 x p k c d).1 p 2 = nI d ∧ (own4 x p k c d).1 p 3 = 1 := ⟨by simp [own4, own2, setI], by simp [own4, own2, setI], by simp [own4, own2, setI], by simp [own4, own2, setI]⟩
theorem own4_o {x : XS} {p k c d i : Nat} (h : i ≠ p) (j : Nat) : (own4 x p k c d).1 i j = x.1 i j ∧ (own4 x p k c d).2 i j = x.2 i j := ⟨by simp [own4, own2, setI, clr, h], by simp [own4, own2, setI, clr, h]⟩
theorem sh_one : ∀ t, t < 12 → (1 : Int32) + nI t / 12 * 4 = 1 := by decide +kernel
def own6 (x : XS) (p : Nat) (f : Nat → Nat) : XS := setI (setI (setI (setI (setI (setI (clr x p) p 0 (nI (f 0))) p 1 (nI (f 1))) p 2 (nI (f 2))) p 3 (nI (f 3))) p 4 (nI (f 4))) p 5 (nI (f 5))
theorem own6_o {x : XS} {p i : Nat} {f : Nat → Nat} (h : i ≠ p) (j : Nat) : (own6 x p f).1 i j = x.1 i j ∧ (own6 x p f).2 i j = x.2 i j := ⟨by simp [own6, setI, clr, h], by simp [own6, setI, clr, h]⟩
theorem own6_at {x : XS} {p : Nat} {f : Nat → Nat} : ∀ j, j < 6 → (own6 x p f).1 p j = nI (f j)
  | 0, _ => by simp [own6, setI]
  | 1, _ => by simp [own6, setI]
  | 2, _ => by simp [own6, setI]
  | 3, _ => by simp [own6, setI]
  | 4, _ => by simp [own6, setI]
  | 5, _ => by simp [own6, setI]
  | j + 6, h => absurd h (by omega)
theorem hfo1 {n : Nat} : ∀ i, i ≠ 1 → ([0, n + 1 + 3, n + 2 + 3, 0, 0] : List Nat)[i]? ≠ some (n + 1 + 3)
  | 0, _ => by simp
  | 1, h => absurd rfl h
  | 2, _ => by simp
  | 3, _ => by simp
  | 4, _ => by simp
  | i + 5, _ => by simp
theorem hfo2 {n : Nat} : ∀ i, i ≠ 2 → ([0, n + 1 + 3, n + 2 + 3, 0, 0] : List Nat)[i]? ≠ some (n + 2 + 3)
  | 0, _ => by simp
  | 1, _ => by simp
  | 2, h => absurd rfl h
  | 3, _ => by simp
  | 4, _ => by simp
  | i + 5, _ => by simp
set_option maxHeartbeats 4000000 in
set_option maxRecDepth 100000 in
theorem c_L_book {g : Gx} {a : Nat → Nat} {x : XS} {lay : List Kd} {qo vo cap : Nat} (hC : Cl lay) (hO : Own lay qo vo) (hB : SB lay x qo vo cap []) (hN0 : scN g < 2 ^ 20) : Mz g yL_book cL_book 10 (some (.object "FeudBookLaw$Sim")) 10 800 200000 lay a x [.ref (g.2.2.2.2 3), .int 5, .ref (a qo)] (BkE lay a x qo vo (bookN (scN g) (scV g))) := by
  refine Mz_of (by decide +kernel) (Nat.le_of_ble_eq_true rfl) ?_
  intro k hk he hg
  subst hg
  obtain ⟨s, hsE⟩ : ∃ s, s = scV (kg k) := ⟨_, rfl⟩
  obtain ⟨N, hNE⟩ : ∃ N, N = scN (kg k) := ⟨_, rfl⟩
  have hN : N < 2 ^ 20 := by rw [hNE]; exact hN0
  rw [← hsE, ← hNE] at he
  obtain ⟨b, hb⟩ : ∃ b, b = bookN N s := ⟨_, rfl⟩
  rw [← hb] at he
  have hW : BW b := by rw [hb]; exact bookN_ok N s
  have hbF : nI (1 + belowN (cellV N s 0) 5) = nI (bF b) := by rw [hb]; rfl
  have hbS : belowN (cellV N s 1) (2 * bF b + 3) = bS b := by rw [hb]; rfl
  have hbM : (if bS b = 0 then 0 else belowN (cellV N s 14) 6) = bM b := by rw [hb]; rfl
  have hbk : ∀ k, bk b k = if belowN (bkX N s k) 9 = 0 then 3 else belowN (bkX N s k >>> ((2 : Int32) &&& 31)) 3 := fun k => by rw [hb]; rfl
  have hb1 : ∀ k, belowN (bkX N s k >>> ((3 : Int32) &&& 31)) (2 * bF b) = b1 b k := fun k => by rw [hb]; rfl
  have hb2 : ∀ k, b2 b k = if bk b k = 3 then b1 b k else belowN (bkX N s k >>> ((6 : Int32) &&& 31)) (2 * bF b) := fun k => by rw [hb]; rfl
  have hbo : ∀ j, 1 + belowN (bkY N s (bM b - j)) 2 = bo b j 0 ∧ belowN (bkY N s (bM b - j) >>> ((2 : Int32) &&& 31)) (bS b) = bo b j 1 ∧ belowN (bkY N s (bM b - j) >>> ((4 : Int32) &&& 31)) 6 = bo b j 2 ∧ belowN (bkY N s (bM b - j) >>> ((3 : Int32) &&& 31)) 21 = bo b j 3 ∧ belowN (bkY N s (bM b - j) >>> ((5 : Int32) &&& 31)) (bS b) = bo b j 4 ∧ belowN (bkY N s (bM b - j) >>> ((6 : Int32) &&& 31)) 8 = bo b j 5 := fun j => by rw [hb]; exact ⟨rfl, rfl, rfl, rfl, rfl, rfl⟩
  have hF1 := hW.1
  have hS1 := hW.2.1
  have hM1 := hW.2.2.2.1
  have hql := at_lt hB.1
  have hvl := at_lt hB.2.1
  have hov := hB.ne
  refine xnew (ci := 9) (ft := [0, 2, 2, 0, 0]) hk tyX9 dL_book_0 (gw_mem 858 (by decide +kernel) (by decide +kernel)) (gw_mem 5 (by decide +kernel) (by decide +kernel)) tyX9_ok rfl rfl kdX9 (gw_mem 1137 (by decide +kernel) (by decide +kernel)) (by omega) (by omega) (okR_new hC) (fun a1 ha1 => ?_)
  rw [← ha1 qo (by omega)]
  refine xdup hk dL_book_3 rfl ?_
  have hC1 : Cl (lay ++ [(.inl (9, [0, 2, 2, 0, 0]) : Kd)]) := hC.app (fun o e t ht h3 => by
    have e2 : o = (9, [0, 2, 2, 0, 0]) := (Sum.inl.inj e).symm
    rw [e2] at ht
    simp at ht
    omega)
  refine xcallIN (n := 0) hk (c_X9_init hC1 app_n) x9_init x9_inst rfl kL_102 dL_book_4 rfl rfl (by decide) ⟨by omega, by omega⟩ (Nat.le_of_ble_eq_true rfl) ?_
  rintro _ _ a2 x2 ⟨rfl, rfl, hK2, rfl⟩
  rw [List.length_append, List.length_singleton] at hK2 ⊢
  rw [← hK2 qo (by omega), ← hK2 lay.length (by omega)]
  refine xlay (lay' := LB lay vo cap 0 0) (by
    rw [LB, set_same hB.2.1, List.append_assoc, List.set_append_right _ _ (Nat.le_refl _), Nat.sub_self]; rfl) ?_
  have hA2 : ∀ j, j < lay.length → a2 j = a j := fun j hj => (hK2 j (by omega)).trans (ha1 j (Nat.ne_of_lt hj))
  refine xastore_n hk dL_book_7 (by decide) ?_
  refine xaload_n hk dL_book_8 rfl ?_
  refine xiconst (v := 1) hk dL_book_9 (by decide) ?_
  refine xaload_n hk dL_book_10 rfl ?_
  refine xiconst (v := 0) hk dL_book_11 (by decide) ?_
  refine xcallS hk (c_L_cell (k := 0) hN0 (by omega)) bL_cell kL_103 dL_book_12 rfl rfl (by decide) ⟨by omega, by omega⟩ (Nat.le_of_ble_eq_true rfl) (det ?_)
  rw [← hsE, ← hNE]
  refine xiload_n hk dL_book_15 rfl ?_
  refine xcallS hk (c_L_below (n := 5) (by omega) (by omega)) bL_below kL_107 dL_book_16 rfl rfl (by decide) ⟨by omega, by omega⟩ (Nat.le_of_ble_eq_true rfl) (det ?_)
  refine xiadd hk dL_book_19 ?_
  rw [show (1 : Int32) + nI (belowN (cellV N s 0) 5) = nI (bF b) by rw [← hbF, ← nI_addN]; rfl]
  refine xputI (ci := 9) (f := 0) hk dL_book_20 ⟨rfl, by decide, _, LB_at 0, rfl⟩ kL_111 ⟨rfl, by decide +kernel⟩ ?_
  refine xiconst (v := 0) hk dL_book_23 (by decide) ?_
  refine xistore hk dL_book_24 (by decide) ?_
  have hBs0 : Bst lay a x qo vo (famT 0 ++ []) (bF b) b 0 0 [] cap a2 (setI (clr x lay.length) lay.length 0 (nI (bF b))) := by
    have e : ∀ i, i < lay.length → ∀ j, (setI (clr x lay.length) lay.length 0 (nI (bF b))).1 i j = x.1 i j := fun i hi j => by
      have : i ≠ lay.length := Nat.ne_of_lt hi
      simp [setI, clr, this]
    refine ⟨fun j hj _ => hA2 j hj, fun i hi _ _ j => ⟨e i hi j, by have : i ≠ lay.length := Nat.ne_of_lt hi; simp [setI, clr, this]⟩, ?_, ⟨by simp [setI], by simp [setI, clr]; rfl, by simp [setI, clr]; rfl⟩, fun k hk => absurd hk (Nat.not_lt_zero _), fun k hk => absurd hk (Nat.not_lt_zero _)⟩
    exact (hB.pos (by rw [LBl_at hql, List.getElem?_set_ne hov.symm]) (by rw [LBl_at hvl, set_same hB.2.1])).wor (fun j => e _ hql j) (fun j => e _ hvl j)
  refine xlay (lay' := LB lay vo cap 0 0 ++ []) (List.append_nil _).symm ?_
  generalize setI (clr x lay.length) lay.length 0 (nI (bF b)) = x2 at hBs0 ⊢
  obtain ⟨cc0, hcc0⟩ : ∃ cc0, cc0 = 3 + 15 + 40 * 12 := ⟨_, rfl⟩
  obtain ⟨ss0, hss0⟩ : ∃ ss0, ss0 = 5 + 30000 + 6200 * 12 := ⟨_, rfl⟩
  have loop3 : ∀ (z j c : Nat) (a1 : Nat → Nat) (x1 : XS), bM b - j < z → j ≤ bM b → Bst lay a x qo vo (famT (bF b) ++ stmT b (bS b) ++ ordT b j) (bF b) b (bS b) j [] c a1 x1 → Wx k (cc0 + 41 * j) (ss0 + 10200 * j) (LB lay vo c (bS b) j) a1 x1 259 [(0, .ref (sa k 3)), (1, .int 5), (2, .ref (a1 qo)), (3, .ref (a1 lay.length)), (4, .int (nI (bS b))), (5, .int (nI (bM b - j)))] [] := by
    intro z
    induction z with
    | zero => intro j c a1 x1 h; omega
    | succ z ih =>
      intro j c a1 x1 hz hj hBs
      have hbs := hBs.2.2.1.2.2.2.1
      refine xiload hk dL_book_259 rfl ?_
      refine xif_le hk 422 dL_book_261 (by decide) (fun h261 => ?_) (fun h261 => ?_)
      · have hje : j = bM b := by
          have := (nI_leq (b := 0) (by omega) (by decide)).mp h261
          omega
        subst hje
        refine xaload_n hk dL_book_422 rfl ?_
        refine xaretZ hk he dL_book_423 (Or.inl ⟨_, rfl⟩) ⟨by omega, by omega⟩ ?_
        exact ⟨rfl, c, rfl, hBs⟩
      · have hjl : j < bM b := by
          have : ¬ bM b - j ≤ 0 := fun z => h261 ((nI_leq (b := 0) (by omega) (by decide)).mpr z)
          omega
        have hoj := hW.2.2.2.2 j hjl
        refine xaload_n hk dL_book_264 rfl ?_
        refine xbipush (v := 15) hk dL_book_265 (by decide) ?_
        refine xcallS hk (c_L_cell (k := 15) hN0 (by omega)) bL_cell kL_103 dL_book_267 rfl rfl (by decide) ⟨by omega, by omega⟩ (Nat.le_of_ble_eq_true rfl) (det ?_)
        rw [← hsE, ← hNE]
        refine xiload hk dL_book_270 rfl ?_
        refine xishr hk dL_book_272 ?_
        refine xbipush (v := 61) hk dL_book_273 (by decide) ?_
        refine xiload hk dL_book_275 rfl ?_
        refine ximul hk dL_book_277 ?_
        refine xiadd hk dL_book_278 ?_
        rw [show cellV N s 15 >>> (nI (bM b - j) &&& 31) + 61 * nI (bM b - j) = bkY N s (bM b - j) from rfl]
        refine xistore hk dL_book_279 (by decide) ?_
        refine xbipush (v := 6) hk dL_book_281 (by decide) ?_
        refine xnewI (N := 6) hk dL_book_283 (by decide) (by decide) (by decide) (by omega) (by omega) (okR_new (LB_cl hC)) (fun a2 ha2 => ?_)
        have hpl : (LB lay vo c (bS b) j).length = lay.length + (3 + bS b + j) := LB_len
        rw [← ha2 qo (by omega), ← ha2 lay.length (by omega)]
        refine xdup hk dL_book_285 rfl ?_
        refine xiconst (v := 0) hk dL_book_286 (by decide) ?_
        refine xiconst (v := 1) hk dL_book_287 (by decide) ?_
        refine xiload hk dL_book_288 rfl ?_
        refine xiconst (v := 2) hk dL_book_290 (by decide) ?_
        refine xcallS hk (c_L_below (n := 2) (by omega) (by omega)) bL_below kL_107 dL_book_291 rfl rfl (by decide) ⟨by omega, by omega⟩ (Nat.le_of_ble_eq_true rfl) (det ?_)
        refine xiadd hk dL_book_294 ?_
        rw [show (1 : Int32) + nI (belowN (bkY N s (bM b - j)) 2) = nI (bo b j 0) by rw [← (hbo j).1, ← nI_addN]; rfl]
        refine xiast hk dL_book_295 app_n (show vp_in (nI 0) 6 from vp_in_nI (by decide) (by decide)) ?_
        refine xdup hk dL_book_296 rfl ?_
        refine xiconst (v := 1) hk dL_book_297 (by decide) ?_
        refine xiload hk dL_book_298 rfl ?_
        refine xiconst (v := 2) hk dL_book_300 (by decide) ?_
        refine xishr hk dL_book_301 ?_
        refine xiload hk dL_book_302 rfl ?_
        refine xcallS hk (c_L_below (n := (bS b)) (by omega) (by omega)) bL_below kL_107 dL_book_304 rfl rfl (by decide) ⟨by omega, by omega⟩ (Nat.le_of_ble_eq_true rfl) (det ?_)
        rw [(hbo j).2.1]
        refine xiast hk dL_book_307 app_n (show vp_in (nI 1) 6 from vp_in_nI (by decide) (by decide)) ?_
        refine xdup hk dL_book_308 rfl ?_
        refine xiconst (v := 2) hk dL_book_309 (by decide) ?_
        refine xiload hk dL_book_310 rfl ?_
        refine xiconst (v := 4) hk dL_book_312 (by decide) ?_
        refine xishr hk dL_book_313 ?_
        refine xbipush (v := 6) hk dL_book_314 (by decide) ?_
        refine xcallS hk (c_L_below (n := 6) (by omega) (by omega)) bL_below kL_107 dL_book_316 rfl rfl (by decide) ⟨by omega, by omega⟩ (Nat.le_of_ble_eq_true rfl) (det ?_)
        rw [(hbo j).2.2.1]
        refine xiast hk dL_book_319 app_n (show vp_in (nI 2) 6 from vp_in_nI (by decide) (by decide)) ?_
        refine xdup hk dL_book_320 rfl ?_
        refine xiconst (v := 3) hk dL_book_321 (by decide) ?_
        refine xiload hk dL_book_322 rfl ?_
        refine xiconst (v := 3) hk dL_book_324 (by decide) ?_
        refine xishr hk dL_book_325 ?_
        refine xbipush (v := 21) hk dL_book_326 (by decide) ?_
        refine xcallS hk (c_L_below (n := 21) (by omega) (by omega)) bL_below kL_107 dL_book_328 rfl rfl (by decide) ⟨by omega, by omega⟩ (Nat.le_of_ble_eq_true rfl) (det ?_)
        rw [(hbo j).2.2.2.1]
        refine xiast hk dL_book_331 app_n (show vp_in (nI 3) 6 from vp_in_nI (by decide) (by decide)) ?_
        refine xdup hk dL_book_332 rfl ?_
        refine xiconst (v := 4) hk dL_book_333 (by decide) ?_
        refine xiload hk dL_book_334 rfl ?_
        refine xiconst (v := 5) hk dL_book_336 (by decide) ?_
        refine xishr hk dL_book_337 ?_
        refine xiload hk dL_book_338 rfl ?_
        refine xcallS hk (c_L_below (n := (bS b)) (by omega) (by omega)) bL_below kL_107 dL_book_340 rfl rfl (by decide) ⟨by omega, by omega⟩ (Nat.le_of_ble_eq_true rfl) (det ?_)
        rw [(hbo j).2.2.2.2.1]
        refine xiast hk dL_book_343 app_n (show vp_in (nI 4) 6 from vp_in_nI (by decide) (by decide)) ?_
        refine xdup hk dL_book_344 rfl ?_
        refine xiconst (v := 5) hk dL_book_345 (by decide) ?_
        refine xiload hk dL_book_346 rfl ?_
        refine xbipush (v := 6) hk dL_book_348 (by decide) ?_
        refine xishr hk dL_book_350 ?_
        refine xbipush (v := 8) hk dL_book_351 (by decide) ?_
        refine xcallS hk (c_L_below (n := 8) (by omega) (by omega)) bL_below kL_107 dL_book_353 rfl rfl (by decide) ⟨by omega, by omega⟩ (Nat.le_of_ble_eq_true rfl) (det ?_)
        rw [(hbo j).2.2.2.2.2]
        refine xiast hk dL_book_356 app_n (show vp_in (nI 5) 6 from vp_in_nI (by decide) (by decide)) ?_
        refine xastore hk dL_book_357 (by decide) ?_
        show Wx _ _ _ _ _ (own6 x1 (LB lay vo c (bS b) j).length (bo b j)) _ _ _
        have hx3 : ∀ i, i < lay.length + (3 + bS b + j) → ∀ jj, (own6 x1 (LB lay vo c (bS b) j).length (bo b j)).1 i jj = x1.1 i jj ∧ (own6 x1 (LB lay vo c (bS b) j).length (bo b j)).2 i jj = x1.2 i jj := fun i hi jj => own6_o (by omega) jj
        have hBs2 := hBs.keep (x2 := own6 x1 (LB lay vo c (bS b) j).length (bo b j)) (a2 := a2) hvl hql (fun i hi => ha2 i (by omega)) hx3
        have hBs3 : Bst lay a x qo vo (famT (bF b) ++ stmT b (bS b) ++ ordT b j) (bF b) b (bS b) j [.inr (0, 6)] c a2 (own6 x1 (LB lay vo c (bS b) j).length (bo b j)) := hBs2.lb hvl hql
        have hro : ∀ i, i < 6 → (own6 x1 (LB lay vo c (bS b) j).length (bo b j)).1 (lay.length + (3 + bS b + j)) i = nI (bo b j i) := fun i hi => by rw [← hpl]; exact own6_at i hi
        generalize own6 x1 (LB lay vo c (bS b) j).length (bo b j) = x3 at hBs3 hro ⊢
        clear hBs2 hx3
        rw [hpl]
        have hq3 : ∀ c, (LB lay vo c (bS b) j ++ [(.inr (0, 6) : Kd)])[lay.length + (3 + bS b + j)]? = some (.inr (0, 6)) := fun c => by rw [← LB_len (vo := vo) (c := c)]; exact app_n
        have hbT : (famT (bF b) ++ stmT b (bS b) ++ ordT b j).length ≤ 55 + 504 + 62 * j := by
          have h1 := famT_le (bF b); have h2 := stmT_le b (bS b); have h3 := ordT_le b j
          simp only [List.length_append]; omega
        obtain ⟨t0, ht0⟩ : ∃ t0, t0 = famT (bF b) ++ stmT b (bS b) ++ ordT b j := ⟨_, rfl⟩
        rw [← ht0] at hBs3 hbT
        refine xaload_n hk dL_book_359 rfl ?_
        refine xaload hk dL_book_360 rfl ?_
        refine xiconst (v := 0) hk dL_book_362 (by decide) ?_
        refine xiald hk dL_book_363 (hq3 c) (show vp_in (nI 0) 6 from vp_in_nI (by decide) (by decide)) ?_
        rw [show x3.1 (lay.length + (3 + bS b + j)) (Int32.toNatClampNeg 0) = nI (bo b j 0) from hro 0 (by decide)]
        refine xiconst (v := 1) hk dL_book_364 (by decide) ?_
        have tail : ∀ i, i < 30 → (if bo b j 0 = 1 then txB 27 else txB 28) = txB i → Wx k (cc0 + 41 * j + 1) (ss0 + 10200 * j + 6) (LB lay vo c (bS b) j ++ [.inr (0, 6)]) a2 x3 375 [(0, .ref (sa k 3)), (1, .int 5), (2, .ref (a2 qo)), (3, .ref (a2 lay.length)), (4, .int (nI (bS b))), (5, .int (nI (bM b - j))), (7, .ref (a2 (lay.length + (3 + bS b + j))))] [.ref (sa k (10 + i)), .ref (a2 qo)] := by
          intro i hi hti
          have h7 : (txB i).length = 7 := by rw [← hti]; split <;> simp only [txl_27, txl_28]
          have hL1 : ∀ c, (LB lay vo c (bS b) j ++ [(.inr (0, 6) : Kd)]).length = lay.length + (3 + bS b + j) + 1 := fun c => by rw [List.length_append, LB_len]; rfl
          have hl1 := hL1 c
          refine xappB hk dL_book_375 (okb2 hC hO hvl) hvl hql hBs3 (Or.inl ⟨i, hi, rfl, rfl⟩) (asc_tx hi) (by rw [h7]; omega) (by decide) ⟨by omega, by omega⟩ (Nat.le_of_ble_eq_true rfl) (fun c3 a3 x4 hBs4 hK => ?_)
          rw [← hK.1 lay.length (by omega) (by omega), ← hK.1 (lay.length + (3 + bS b + j)) (by omega) (by omega)]
          rw [show a2 qo = a3 qo from ((hK.1 qo (by omega) hov).symm)]
          have hro4 : ∀ i, i < 6 → x4.1 (lay.length + (3 + bS b + j)) i = nI (bo b j i) := fun i hi => ((hK.2 _ (by omega) (by omega) (by omega) i).1).trans (hro i hi)
          refine xaload hk dL_book_378 rfl ?_
          refine xiconst (v := 1) hk dL_book_380 (by decide) ?_
          refine xiald hk dL_book_381 (hq3 c3) (show vp_in (nI 1) 6 from vp_in_nI (by decide) (by decide)) ?_
          rw [show x4.1 (lay.length + (3 + bS b + j)) (Int32.toNatClampNeg 1) = nI (bo b j 1) from hro4 1 (by decide)]
          have hl1 := hL1 c3
          refine xappBI hk dL_book_382 (okb2 hC hO hvl) hvl hql hBs4 (by omega) (by rw [List.length_append, h7]; omega) (by decide) ⟨by omega, by omega⟩ (Nat.le_of_ble_eq_true rfl) (fun c4 a4 x5 hBs5 hK => ?_)
          rw [← hK.1 lay.length (by omega) (by omega), ← hK.1 (lay.length + (3 + bS b + j)) (by omega) (by omega)]
          rw [show a3 qo = a4 qo from ((hK.1 qo (by omega) hov).symm)]
          have hro5 : ∀ i, i < 6 → x5.1 (lay.length + (3 + bS b + j)) i = nI (bo b j i) := fun i hi => ((hK.2 _ (by omega) (by omega) (by omega) i).1).trans (hro4 i hi)
          have hl1 := hL1 c4
          refine xaload hk dL_book_385 rfl ?_
          refine xaload_n hk dL_book_387 rfl ?_
          have hF0 := hBs5.2.2.2.1.1
          refine xgetI (ci := 9) (f := 0) hk dL_book_388 ⟨rfl, by decide, _, app_o (LB_at 0), rfl⟩ kL_111 ?_
          rw [hF0]
          refine xcallSZ hk (c_L_test (kk := bo b j 2) (d := bo b j 3) (e := bo b j 4) (f := bo b j 5) (N := bF b) (okb2 hC hO hvl c4).1 (hq3 c4) (by decide) (hro5 2 (by decide)) (hro5 3 (by decide)) (hro5 4 (by decide)) (hro5 5 (by decide)) (by omega) (by omega) (by omega) (by omega) (by omega)) bL_test kL_137 dL_book_391 rfl rfl (by decide) ⟨by omega, by omega⟩ (Nat.le_of_ble_eq_true rfl) ?_
          rintro _ _ a5 x6 ⟨r, l, rfl, rfl, hl, hK5, hS5⟩
          rw [← hK5.1 qo (by omega), ← hK5.1 lay.length (by omega), ← hK5.1 (lay.length + (3 + bS b + j)) (by omega)]
          have hTb := testB_le (bo b j 2) (bo b j 3) (bo b j 4) (bo b j 5) (bF b)
          have hTa := testB_asc (bo b j 2) (bo b j 3) (bo b j 4) (bo b j 5) (bF b) (by omega) (by omega) (by omega) (by omega) (by omega)
          have hnb := numB_le (bo b j 1)
          obtain ⟨tt, htt⟩ : ∃ tt, tt = testB (bo b j 2) (bo b j 3) (bo b j 4) (bo b j 5) (bF b) := ⟨_, rfl⟩
          rw [← htt] at hTb hTa hS5 hl
          refine xlay (lay' := LB lay vo c4 (bS b) j ++ ([.inr (0, 6)] ++ l)) (List.append_assoc _ _ _) ?_
          have hok : Okb lay qo vo (bS b) j ([.inr (0, 6)] ++ l) := by
            rcases hl with rfl | rfl
            · exact okb2 hC hO hvl
            · rw [hl1]; exact okb1 hC hO hvl
          have hBs6 : Bst lay a x qo vo (t0 ++ txB i ++ numB (bo b j 1)) (bF b) b (bS b) j ([.inr (0, 6)] ++ l) c4 a5 x6 := (hBs5.keep hvl hql (fun i hi => hK5.1 i (by omega)) (fun i hi jj => hK5.2 i (by omega) id jj)).lb hvl hql
          have hro6 : ∀ i, i < 6 → x6.1 (lay.length + (3 + bS b + j)) i = nI (bo b j i) := fun i hi => ((hK5.2 _ (by omega) id i).1).trans (hro5 i hi)
          have hS6 : StrR (sa k) (LB lay vo c4 (bS b) j ++ ([.inr (0, 6)] ++ l)) a5 x6 r tt := by rw [← List.append_assoc]; exact hS5
          have hl2 : ∀ c, (LB lay vo c (bS b) j ++ ([(.inr (0, 6) : Kd)] ++ l)).length = lay.length + (3 + bS b + j) + 1 + l.length := fun c => by rw [← List.append_assoc, List.length_append, hL1]
          have hl3 := hl2 c4
          refine xappB hk dL_book_394 hok hvl hql hBs6 hS6 hTa (by simp only [List.length_append, h7]; omega) (by decide) ⟨by omega, by omega⟩ (Nat.le_of_ble_eq_true rfl) (fun c5 a6 x7 hBs7 hK => ?_)
          rw [← hK.1 lay.length (by omega) (by omega), ← hK.1 (lay.length + (3 + bS b + j)) (by omega) (by omega)]
          rw [show a5 qo = a6 qo from ((hK.1 qo (by omega) hov).symm)]
          have hro7 : ∀ i, i < 6 → x7.1 (lay.length + (3 + bS b + j)) i = nI (bo b j i) := fun i hi => ((hK.2 _ (by omega) (by omega) (by omega) i).1).trans (hro6 i hi)
          have hl3 := hl2 c5
          refine xappBL (i := 26) hk dL_book_397 dL_book_399 (by decide) ⟨rfl, rfl⟩ hok hvl hql hBs7 (by simp only [List.length_append, h7, txl_26]; omega) (by decide) ⟨by omega, by omega⟩ (Nat.le_of_ble_eq_true rfl) (fun c6 a7 x8 hBs8 hK => ?_)
          rw [← hK.1 lay.length (by omega) (by omega), ← hK.1 (lay.length + (3 + bS b + j)) (by omega) (by omega)]
          rw [show a6 qo = a7 qo from ((hK.1 qo (by omega) hov).symm)]
          have hro8 : ∀ i, i < 6 → x8.1 (lay.length + (3 + bS b + j)) i = nI (bo b j i) := fun i hi => ((hK.2 _ (by omega) (by omega) (by omega) i).1).trans (hro7 i hi)
          refine xpop hk dL_book_402 rfl ?_
          refine xlay (lay' := (LB lay vo c6 (bS b) j ++ [.inr (0, 6)]) ++ l) (List.append_assoc _ _ _).symm ?_
          refine xdrop (fun _ => true) (okR_true _) (fun _ _ => rfl) ?_
          have hBs9 : Bst lay a x qo vo (famT (bF b) ++ stmT b (bS b) ++ ordT b (j + 1)) (bF b) b (bS b) j [.inr (0, 6)] c6 a7 x8 := by
            have e : famT (bF b) ++ stmT b (bS b) ++ ordT b (j + 1) = t0 ++ txB i ++ numB (bo b j 1) ++ tt ++ txB 26 := by
              rw [ht0, htt, ← hti]; simp only [ordT, List.append_assoc]
            rw [e]; exact hBs8.lb hvl hql
          have hl1 := hL1 c6
          refine xaload_n hk dL_book_403 rfl ?_
          refine xaload_n hk dL_book_404 rfl ?_
          refine xgetR (ci := 9) (f := 2) hk dL_book_405 ⟨rfl, by decide, _, app_o (LB_at 0), rfl⟩ kL_140 ?_
          refine xaload hk dL_book_408 rfl ?_
          refine xcallSZ hk (c_X9_with (okb2 hC hO hvl c6).1 (app_o (LB_at 2)) (hq3 c6) (fun i hi => by
            rw [rows_len] at hi
            refine ⟨lay.length + 3 + bS b + i, 6, ?_, ?_⟩
            · have := rows_at (q := lay.length + 3 + bS b) hi (by omega)
              rw [nI_clamp (by omega)] at this; exact this
            · rw [show lay.length + 3 + bS b + i = lay.length + (3 + bS b + i) by omega]; exact app_o (LB_ord hi)) (by rw [rows_len]; omega)) bX9_with kL_129 dL_book_410 rfl rfl (by decide) ⟨by omega, by omega⟩ (Nat.le_of_ble_eq_true rfl) ?_
          rintro _ _ a8 x9 ⟨rfl, rfl, hK8, rfl⟩
          rw [hl1] at hK8 ⊢
          rw [← hK8 qo (by omega), ← hK8 lay.length (by omega), ← hK8 (lay.length + (3 + bS b + j)) (by omega)]
          refine xputK (ci := 9) (f := 2) (j := lay.length + (3 + bS b + j) + 1) hk dL_book_413 rfl (by decide) (app_o (app_o (LB_at 0))) (by show 2 < 5; decide) kL_140 rfl (tyX9_ok 2 (by decide)) (fun _ => ⟨rfl, rfl⟩) ?_
          refine xlay (lay' := ((LB lay vo c6 (bS b) j ++ [(.inr (0, 6) : Kd)]) ++ [(.inl (103, rowsK (lay.length + 3 + bS b) j ++ [lay.length + 3 + bS b + j + 3]) : Kd)]).set lay.length (.inl (9, [0, lay.length + 1 + 3, lay.length + 2 + 3, 0, 0].set 2 ((LB lay vo c6 (bS b) j ++ [(.inr (0, 6) : Kd)]).length + 3)))) (by rw [hl1, show lay.length + (3 + bS b + j) + 3 = lay.length + 3 + bS b + j + 3 by omega]) ?_
          refine xmove (v := lay.length + 2) (f := 2) (by decide) ((LB_ownN hC (Or.inr rfl)).appR) (app_o (LB_at 0)) rfl hfo2 (app_o (LB_at 2)) (by omega) (fun t ht => ?_) ?_
          · rcases List.mem_append.mp ht with h | h
            · obtain ⟨i, hi, rfl⟩ := rowsK_mem h; omega
            · rw [List.mem_singleton] at h; omega
          rw [LB_stepO, hl1]
          have hBs10 := ((hBs9.keep hvl hql (fun i hi => hK8 i (by omega)) (fun i _ jj => ⟨rfl, rfl⟩)).stepO (m := lay.length + (3 + bS b + j) + 1) hvl hql hro8)
          rw [← grA_o (m := lay.length + (3 + bS b + j) + 1) (v := lay.length + 2) (f := a8) (show qo ≠ lay.length + 2 by omega), ← grA_o (m := lay.length + (3 + bS b + j) + 1) (v := lay.length + 2) (f := a8) (show lay.length ≠ lay.length + 2 by omega)]
          refine xiinc (v := nI (bM b - (j + 1))) hk dL_book_416 rfl (by decide) (by rw [nI_decE (by omega), Nat.sub_sub]) ?_
          refine xgoto hk 259 dL_book_419 (by decide) ?_
          refine xsub [(0, _), (1, _), (2, _), (3, _), (4, _), (5, _)] rfl ?_
          exact xwiden (by omega) (by omega) (ih (j + 1) c6 _ _ (by omega) (by omega) hBs10)
        refine xicmp_ne hk 373 dL_book_365 (by decide) (fun h365 => ?_) (fun h365 => ?_)
        · refine xldcT (i := 28) hk dL_book_373 ⟨rfl, rfl⟩ (by decide) ?_
          refine xsub [(0, _), (1, _), (2, _), (3, _), (4, _), (5, _), (7, _)] rfl ?_
          exact tail 28 (by decide) (if_neg (fun z => h365 (by rw [z]; rfl)))
        · refine xldcT (i := 27) hk dL_book_368 ⟨rfl, rfl⟩ (by decide) ?_
          refine xgoto hk 375 dL_book_370 (by decide) ?_
          refine xsub [(0, _), (1, _), (2, _), (3, _), (4, _), (5, _), (7, _)] rfl ?_
          exact tail 27 (by decide) (if_pos ((nI_inj (by omega) (by decide)).mp (h365 : nI (bo b j 0) = nI 1)))
  have loop2 : ∀ (z t c : Nat) (a1 : Nat → Nat) (x1 : XS), bS b - t < z → t ≤ bS b → Bst lay a x qo vo (famT (bF b) ++ stmT b t) (bF b) b t 0 [] c a1 x1 → Wx k (18 + 40 * t) (30005 + 6200 * t) (LB lay vo c t 0) a1 x1 79 [(0, .ref (sa k 3)), (1, .int 5), (2, .ref (a1 qo)), (3, .ref (a1 lay.length)), (4, .int (nI (bS b))), (5, .int (nI t))] [] := by
    intro z
    induction z with
    | zero => intro t c a1 x1 h; omega
    | succ z ih =>
      intro t c a1 x1 hz ht hBs
      have hF0 := hBs.2.2.2.1.1
      refine xiload hk dL_book_79 rfl ?_
      refine xiload hk dL_book_81 rfl ?_
      refine xicmp_ge hk 237 dL_book_83 (by decide) (fun h83 => ?_) (fun h83 => ?_)
      · have hte : t = bS b := Nat.le_antisymm ht ((nI_leq (by omega) (by omega)).mp h83)
        subst hte
        refine xiload hk dL_book_237 rfl ?_
        refine xif_ne hk 246 dL_book_239 (by decide) (fun h239 => ?_) (fun h239 => ?_)
        · have hS0 : ¬ bS b = 0 := fun z => h239 (by rw [z]; rfl)
          refine xaload_n hk dL_book_246 rfl ?_
          refine xbipush (v := 14) hk dL_book_247 (by decide) ?_
          refine xcallS hk (c_L_cell (k := 14) hN0 (by omega)) bL_cell kL_103 dL_book_249 rfl rfl (by decide) ⟨by omega, by omega⟩ (Nat.le_of_ble_eq_true rfl) (det ?_)
          rw [← hsE, ← hNE]
          refine xbipush (v := 6) hk dL_book_252 (by decide) ?_
          refine xcallS hk (c_L_below (n := 6) (by omega) (by omega)) bL_below kL_107 dL_book_254 rfl rfl (by decide) ⟨by omega, by omega⟩ (Nat.le_of_ble_eq_true rfl) (det ?_)
          rw [if_neg hS0] at hbM
          rw [hbM, show bM b = bM b - 0 from rfl]
          refine xistore hk dL_book_257 (by decide) ?_
          refine xwiden (by omega) (by omega) (loop3 (bM b + 1) 0 c a1 x1 (by omega) (Nat.zero_le _) (by rw [show ordT b 0 = [] from rfl, List.append_nil]; exact hBs))
        · have hS0 : bS b = 0 := (nI_inj (by omega) (by decide)).mp (h239 : nI (bS b) = nI 0)
          refine xiconst (v := 0) hk dL_book_242 (by decide) ?_
          rw [if_pos hS0] at hbM
          rw [show (Value.int 0) = Value.int (nI (bM b - 0)) by rw [← hbM]; rfl]
          refine xgoto hk 257 dL_book_243 (by decide) ?_
          refine xistore hk dL_book_257 (by decide) ?_
          refine xwiden (by omega) (by omega) (loop3 (bM b + 1) 0 c a1 x1 (by omega) (Nat.zero_le _) (by rw [show ordT b 0 = [] from rfl, List.append_nil]; exact hBs))
      · have htl : t < bS b := Nat.not_le.mp (fun q => h83 ((nI_leq (by omega) (by omega)).mpr q))
        refine xaload_n hk dL_book_86 rfl ?_
        refine xiconst (v := 2) hk dL_book_87 (by decide) ?_
        refine xiload hk dL_book_88 rfl ?_
        refine xbipush (v := 12) hk dL_book_90 (by decide) ?_
        refine xirem hk dL_book_92 (by decide) ?_
        rw [show (12 : Int32) = nI 12 from rfl, rem_nI (by omega) (by decide) (by decide), Nat.mod_eq_of_lt (by omega)]
        refine xiadd hk dL_book_93 ?_
        rw [show (2 : Int32) + nI t = nI (2 + t) by rw [← nI_addN]; rfl]
        refine xcallS hk (c_L_cell (k := 2 + t) hN0 (by omega)) bL_cell kL_103 dL_book_94 rfl rfl (by decide) ⟨by omega, by omega⟩ (Nat.le_of_ble_eq_true rfl) (det ?_)
        rw [← hsE, ← hNE]
        refine xiconst (v := 1) hk dL_book_97 (by decide) ?_
        refine xiload hk dL_book_98 rfl ?_
        refine xbipush (v := 12) hk dL_book_100 (by decide) ?_
        refine xidiv hk dL_book_102 (by decide) ?_
        refine xiconst (v := 4) hk dL_book_103 (by decide) ?_
        refine ximul hk dL_book_104 ?_
        refine xiadd hk dL_book_105 ?_
        rw [show (1 : Int32) + nI t / 12 * 4 = 1 from sh_one t (by omega)]
        refine xishr hk dL_book_106 ?_
        refine xbipush (v := 37) hk dL_book_107 (by decide) ?_
        refine xiload hk dL_book_109 rfl ?_
        refine ximul hk dL_book_111 ?_
        refine xiadd hk dL_book_112 ?_
        rw [show cellV N s (2 + t) >>> ((1 : Int32) &&& 31) + 37 * nI t = bkX N s t from rfl]
        refine xistore hk dL_book_113 (by decide) ?_
        have tail : Wx k (18 + 40 * t) (30005 + 6200 * t) (LB lay vo c t 0) a1 x1 137 [(0, .ref (sa k 3)), (1, .int 5), (2, .ref (a1 qo)), (3, .ref (a1 lay.length)), (4, .int (nI (bS b))), (5, .int (nI t)), (6, .int (bkX N s t))] [.int (nI (bk b t))] := by
          refine xistore hk dL_book_137 (by decide) ?_
          refine xiload hk dL_book_139 rfl ?_
          refine xiconst (v := 3) hk dL_book_141 (by decide) ?_
          refine xishr hk dL_book_142 ?_
          refine xiconst (v := 2) hk dL_book_143 (by decide) ?_
          refine xaload_n hk dL_book_144 rfl ?_
          refine xgetI (ci := 9) (f := 0) hk dL_book_145 ⟨rfl, by decide, _, LB_at 0, rfl⟩ kL_111 ?_
          rw [hF0]
          refine ximul hk dL_book_148 ?_
          rw [show (2 : Int32) = nI 2 from rfl, mul_nI]
          refine xcallS hk (c_L_below (n := 2 * bF b) (by omega) (by omega)) bL_below kL_107 dL_book_149 rfl rfl (by decide) ⟨by omega, by omega⟩ (Nat.le_of_ble_eq_true rfl) (det ?_)
          rw [hb1 t]
          refine xistore hk dL_book_152 (by decide) ?_
          refine xiconst (v := 4) hk dL_book_154 (by decide) ?_
          refine xnewI (N := 4) hk dL_book_155 (by decide) (by decide) (by decide) (by omega) (by omega) (okR_new (LB_cl hC)) (fun a2 ha2 => ?_)
          have hpl : (LB lay vo c t 0).length = lay.length + (3 + t + 0) := LB_len
          rw [← ha2 qo (by omega), ← ha2 lay.length (by omega)]
          refine xdup hk dL_book_157 rfl ?_
          refine xiconst (v := 0) hk dL_book_158 (by decide) ?_
          refine xiload hk dL_book_159 rfl ?_
          refine xiast hk dL_book_161 app_n (show vp_in (nI 0) 4 from vp_in_nI (by decide) (by decide)) ?_
          refine xdup hk dL_book_162 rfl ?_
          refine xiconst (v := 1) hk dL_book_163 (by decide) ?_
          refine xiload hk dL_book_164 rfl ?_
          refine xiast hk dL_book_166 app_n (show vp_in (nI 1) 4 from vp_in_nI (by decide) (by decide)) ?_
          show Wx _ _ _ _ _ (own2 x1 (LB lay vo c t 0).length (bk b t) (b1 b t)) _ _ _
          have hbt := hW.2.2.1 t htl
          have hF2 : (own2 x1 (LB lay vo c t 0).length (bk b t) (b1 b t)).1 lay.length 0 = nI (bF b) := ((own2_o (by omega) 0).1).trans hF0
          have tail2 : Wx k (18 + 40 * t + 1) (30005 + 6200 * t + 4) (LB lay vo c t 0 ++ [.inr (0, 4)]) a2 (own2 x1 (LB lay vo c t 0).length (bk b t) (b1 b t)) 194 [(0, .ref (sa k 3)), (1, .int 5), (2, .ref (a2 qo)), (3, .ref (a2 lay.length)), (4, .int (nI (bS b))), (5, .int (nI t)), (6, .int (bkX N s t)), (7, .int (nI (bk b t))), (8, .int (nI (b1 b t)))] [.int (nI (b2 b t)), .int 2, .ref (a2 (LB lay vo c t 0).length), .ref (a2 (LB lay vo c t 0).length)] := by
            refine xiast hk dL_book_194 app_n (show vp_in (nI 2) 4 from vp_in_nI (by decide) (by decide)) ?_
            refine xdup hk dL_book_195 rfl ?_
            refine xiconst (v := 3) hk dL_book_196 (by decide) ?_
            refine xiconst (v := 1) hk dL_book_197 (by decide) ?_
            refine xiast hk dL_book_198 app_n (show vp_in (nI 3) 4 from vp_in_nI (by decide) (by decide)) ?_
            refine xastore hk dL_book_199 (by decide) ?_
            show Wx _ _ _ _ _ (own4 x1 (LB lay vo c t 0).length (bk b t) (b1 b t) (b2 b t)) _ _ _
            have hx3 : ∀ i, i < lay.length + (3 + t + 0) → ∀ jj, (own4 x1 (LB lay vo c t 0).length (bk b t) (b1 b t) (b2 b t)).1 i jj = x1.1 i jj ∧ (own4 x1 (LB lay vo c t 0).length (bk b t) (b1 b t) (b2 b t)).2 i jj = x1.2 i jj := fun i hi jj => own4_o (by omega) jj
            have hBs2 := hBs.keep (x2 := own4 x1 (LB lay vo c t 0).length (bk b t) (b1 b t) (b2 b t)) (a2 := a2) hvl hql (fun i hi => ha2 i (by omega)) hx3
            have hBs3 : Bst lay a x qo vo (famT (bF b) ++ stmT b t) (bF b) b t 0 [.inr (0, 4)] c a2 (own4 x1 (LB lay vo c t 0).length (bk b t) (b1 b t) (b2 b t)) := hBs2.lb hvl hql
            have hro := own4_at (x := x1) (p := (LB lay vo c t 0).length) (k := bk b t) (c := b1 b t) (d := b2 b t)
            generalize own4 x1 (LB lay vo c t 0).length (bk b t) (b1 b t) (b2 b t) = x3 at hBs3 hro ⊢
            clear hBs2 hx3
            rw [hpl] at hro ⊢
            have hq3 : ∀ c, (LB lay vo c t 0 ++ [(.inr (0, 4) : Kd)])[lay.length + (3 + t + 0)]? = some (.inr (0, 4)) := fun c => by rw [← LB_len (vo := vo) (c := c)]; exact app_n
            have hbT : (famT (bF b) ++ stmT b t).length ≤ 55 + 42 * t := by
              have h1 := famT_le (bF b); have h2 := stmT_le b t
              simp only [List.length_append]; omega
            obtain ⟨t0, ht0⟩ : ∃ t0, t0 = famT (bF b) ++ stmT b t := ⟨_, rfl⟩
            rw [← ht0] at hBs3 hbT
            have hL1 : ∀ c, (LB lay vo c t 0 ++ [(.inr (0, 4) : Kd)]).length = lay.length + (3 + t + 0) + 1 := fun c => by rw [List.length_append, LB_len]; rfl
            have hl1 := hL1 c
            refine xaload_n hk dL_book_201 rfl ?_
            refine xaload hk dL_book_202 rfl ?_
            refine xiload hk dL_book_204 rfl ?_
            refine xcallSZ hk (c_L_told (k1 := bk b t) (c := b1 b t) (d := b2 b t) (n := t) (okb2 hC hO hvl c).1 (hq3 c) (by decide) hro.1 hro.2.1 hro.2.2.1 (by omega) (by omega) (by omega) (by omega)) bL_told kL_119 dL_book_206 rfl rfl (by decide) ⟨by omega, by omega⟩ (Nat.le_of_ble_eq_true rfl) ?_
            rintro _ _ a5 x6 ⟨rfl, rfl, hK5, hs5, hb5⟩
            have hTb := toldB_le (bk b t) (b1 b t) (b2 b t) t
            have hTa := toldB_asc (k := bk b t) (c := b1 b t) (d := b2 b t) (n := t) (by omega) (by omega) (by omega)
            obtain ⟨tt, htt⟩ : ∃ tt, tt = toldB (bk b t) (b1 b t) (b2 b t) t := ⟨_, rfl⟩
            rw [← htt] at hTb hTa hb5 ⊢
            rw [← hK5.1 qo (by omega), ← hK5.1 lay.length (by omega), ← hK5.1 (lay.length + (3 + t + 0)) (by omega)]
            rw [hl1] at hs5 hb5 ⊢
            obtain ⟨l, hl⟩ : ∃ l : List Kd, l = [.inr (0, 4), .inl (10, [lay.length + (3 + t + 0) + 1 + 4, 0, 0, 0]), .inr (2, tt.length)] := ⟨_, rfl⟩
            refine xlay (lay' := LB lay vo c t 0 ++ l) (by rw [hl, List.append_assoc]; rfl) ?_
            have hok : Okb lay qo vo t 0 l := by rw [hl]; exact okb1 hC hO hvl
            have hBs6 : Bst lay a x qo vo t0 (bF b) b t 0 l c a5 x6 := (hBs3.keep hvl hql (fun i hi => hK5.1 i (by omega)) (fun i hi jj => hK5.2 i (by omega) id jj)).lb hvl hql
            have hro6 : ∀ jj, x6.1 (lay.length + (3 + t + 0)) jj = x3.1 (lay.length + (3 + t + 0)) jj := fun jj => (hK5.2 _ (by omega) id jj).1
            have hl2 : ∀ c, (LB lay vo c t 0 ++ l).length = lay.length + (3 + t + 0) + 3 := fun c => by rw [hl, List.length_append, LB_len]; rfl
            have hl3 := hl2 c
            have hS6 : StrR (sa k) (LB lay vo c t 0 ++ l) a5 x6 (a5 (lay.length + (3 + t + 0) + 1)) tt := Or.inr ⟨lay.length + (3 + t + 0) + 1, lay.length + (3 + t + 0) + 1 + 1, ⟨by
              rw [hl, List.getElem?_append_right (by rw [LB_len]; omega), LB_len, Nat.add_sub_cancel_left]; rfl, by
              rw [hl, List.getElem?_append_right (by rw [LB_len]; omega), LB_len, show lay.length + (3 + t + 0) + 1 + 1 - (lay.length + (3 + t + 0)) = 2 by omega]; rfl, hs5, hb5⟩, rfl⟩
            refine xappB hk dL_book_209 hok hvl hql hBs6 hS6 hTa (by omega) (by decide) ⟨by omega, by omega⟩ (Nat.le_of_ble_eq_true rfl) (fun c5 a6 x7 hBs7 hK => ?_)
            rw [← hK.1 lay.length (by omega) (by omega), ← hK.1 (lay.length + (3 + t + 0)) (by omega) (by omega)]
            rw [show a5 qo = a6 qo from ((hK.1 qo (by omega) hov).symm)]
            have hro7 : ∀ jj, x7.1 (lay.length + (3 + t + 0)) jj = x3.1 (lay.length + (3 + t + 0)) jj := fun jj => ((hK.2 _ (by omega) (by omega) (by omega) jj).1).trans (hro6 jj)
            have hl3 := hl2 c5
            refine xappBL (i := 26) hk dL_book_212 dL_book_214 (by decide) ⟨rfl, rfl⟩ hok hvl hql hBs7 (by simp only [List.length_append, txl_26]; omega) (by decide) ⟨by omega, by omega⟩ (Nat.le_of_ble_eq_true rfl) (fun c6 a7 x8 hBs8 hK => ?_)
            rw [← hK.1 lay.length (by omega) (by omega), ← hK.1 (lay.length + (3 + t + 0)) (by omega) (by omega)]
            rw [show a6 qo = a7 qo from ((hK.1 qo (by omega) hov).symm)]
            have hro8 : ∀ jj, x8.1 (lay.length + (3 + t + 0)) jj = x3.1 (lay.length + (3 + t + 0)) jj := fun jj => ((hK.2 _ (by omega) (by omega) (by omega) jj).1).trans (hro7 jj)
            refine xpop hk dL_book_217 rfl ?_
            refine xlay (lay' := (LB lay vo c6 t 0 ++ [.inr (0, 4)]) ++ [.inl (10, [lay.length + (3 + t + 0) + 1 + 4, 0, 0, 0]), .inr (2, tt.length)]) (by rw [hl, List.append_assoc]; rfl) ?_
            refine xdrop (fun _ => true) (okR_true _) (fun _ _ => rfl) ?_
            have hBs9 : Bst lay a x qo vo (famT (bF b) ++ stmT b (t + 1)) (bF b) b t 0 [.inr (0, 4)] c6 a7 x8 := by
              have e : famT (bF b) ++ stmT b (t + 1) = t0 ++ tt ++ txB 26 := by
                rw [ht0, htt]; simp only [stmT, List.append_assoc]
              rw [e]; exact hBs8.lb hvl hql
            have hl1 := hL1 c6
            refine xaload_n hk dL_book_218 rfl ?_
            refine xaload_n hk dL_book_219 rfl ?_
            refine xgetR (ci := 9) (f := 1) hk dL_book_220 ⟨rfl, by decide, _, app_o (LB_at 0), rfl⟩ kL_125 ?_
            refine xaload hk dL_book_223 rfl ?_
            refine xcallSZ hk (c_X9_with (okb2 hC hO hvl c6).1 (app_o (LB_at 1)) (hq3 c6) (fun i hi => by
              rw [rows_len] at hi
              refine ⟨lay.length + 3 + i, 4, ?_, ?_⟩
              · have := rows_at (q := lay.length + 3) hi (by omega)
                rw [nI_clamp (by omega)] at this; exact this
              · rw [show lay.length + 3 + i = lay.length + (3 + i) by omega]; exact app_o (LB_row hi)) (by rw [rows_len]; omega)) bX9_with kL_129 dL_book_225 rfl rfl (by decide) ⟨by omega, by omega⟩ (Nat.le_of_ble_eq_true rfl) ?_
            rintro _ _ a8 x9 ⟨rfl, rfl, hK8, rfl⟩
            rw [hl1] at hK8 ⊢
            rw [← hK8 qo (by omega), ← hK8 lay.length (by omega), ← hK8 (lay.length + (3 + t + 0)) (by omega)]
            refine xputK (ci := 9) (f := 1) (j := lay.length + (3 + t + 0) + 1) hk dL_book_228 rfl (by decide) (app_o (app_o (LB_at 0))) (by show 1 < 5; decide) kL_125 rfl (tyX9_ok 1 (by decide)) (fun _ => ⟨rfl, rfl⟩) ?_
            refine xlay (lay' := ((LB lay vo c6 t 0 ++ [(.inr (0, 4) : Kd)]) ++ [(.inl (103, rowsK (lay.length + 3) t ++ [lay.length + 3 + t + 3]) : Kd)]).set lay.length (.inl (9, [0, lay.length + 1 + 3, lay.length + 2 + 3, 0, 0].set 1 ((LB lay vo c6 t 0 ++ [(.inr (0, 4) : Kd)]).length + 3)))) (by rw [hl1, show lay.length + (3 + t + 0) + 3 = lay.length + 3 + t + 3 by omega]) ?_
            refine xmove (v := lay.length + 1) (f := 1) (by decide) ((LB_ownN hC (Or.inl rfl)).appR) (app_o (LB_at 0)) rfl hfo1 (app_o (LB_at 1)) (by omega) (fun u hu => ?_) ?_
            · rcases List.mem_append.mp hu with h | h
              · obtain ⟨i, hi, rfl⟩ := rowsK_mem h; omega
              · rw [List.mem_singleton] at h; omega
            rw [LB_stepS, hl1]
            have hBs10 := ((hBs9.keep hvl hql (fun i hi => hK8 i (by omega)) (fun i _ jj => ⟨rfl, rfl⟩)).stepS (m := lay.length + (3 + t + 0) + 1) hvl hql (by
              rw [show lay.length + (3 + t) = lay.length + (3 + t + 0) by omega, hro8, hro8, hro8, hro8]; exact hro))
            rw [← grA_o (m := lay.length + (3 + t + 0) + 1) (v := lay.length + 1) (f := a8) (show qo ≠ lay.length + 1 by omega), ← grA_o (m := lay.length + (3 + t + 0) + 1) (v := lay.length + 1) (f := a8) (show lay.length ≠ lay.length + 1 by omega)]
            refine xiinc (v := nI (t + 1)) hk dL_book_231 rfl (by decide) (nI_inc t) ?_
            refine xgoto hk 79 dL_book_234 (by decide) ?_
            refine xsub [(0, _), (1, _), (2, _), (3, _), (4, _), (5, _)] rfl ?_
            exact xwiden (by omega) (by omega) (ih (t + 1) c6 _ _ (by omega) (by omega) hBs10)
          refine xdup hk dL_book_167 rfl ?_
          refine xiconst (v := 2) hk dL_book_168 (by decide) ?_
          refine xiload hk dL_book_169 rfl ?_
          refine xiconst (v := 3) hk dL_book_171 (by decide) ?_
          refine xicmp_ne hk 180 dL_book_172 (by decide) (fun h172 => ?_) (fun h172 => ?_)
          · have h3 : b2 b t = belowN (bkX N s t >>> ((6 : Int32) &&& 31)) (2 * bF b) := (hb2 t).trans (if_neg (fun z => h172 (by rw [z]; rfl)))
            refine xiload hk dL_book_180 rfl ?_
            refine xbipush (v := 6) hk dL_book_182 (by decide) ?_
            refine xishr hk dL_book_184 ?_
            refine xiconst (v := 2) hk dL_book_185 (by decide) ?_
            refine xaload_n hk dL_book_186 rfl ?_
            refine xgetI (ci := 9) (f := 0) hk dL_book_187 ⟨rfl, by decide, _, app_o (LB_at 0), rfl⟩ kL_111 ?_
            rw [hF2]
            refine ximul hk dL_book_190 ?_
            rw [show (2 : Int32) = nI 2 from rfl, mul_nI]
            refine xcallS hk (c_L_below (n := 2 * bF b) (by omega) (by omega)) bL_below kL_107 dL_book_191 rfl rfl (by decide) ⟨by omega, by omega⟩ (Nat.le_of_ble_eq_true rfl) (det ?_)
            rw [h3] at tail2
            exact tail2
          · have h3 : b2 b t = b1 b t := (hb2 t).trans (if_pos ((nI_inj (by omega) (by decide)).mp (h172 : nI (bk b t) = nI 3)))
            refine xiload hk dL_book_175 rfl ?_
            refine xgoto hk 194 dL_book_177 (by decide) ?_
            rw [h3] at tail2
            exact tail2
        refine xiload hk dL_book_115 rfl ?_
        refine xbipush (v := 9) hk dL_book_117 (by decide) ?_
        refine xcallS hk (c_L_below (n := 9) (by omega) (by omega)) bL_below kL_107 dL_book_119 rfl rfl (by decide) ⟨by omega, by omega⟩ (Nat.le_of_ble_eq_true rfl) (det ?_)
        refine xif_ne hk 129 dL_book_122 (by decide) (fun h122 => ?_) (fun h122 => ?_)
        · have hbt : bk b t = belowN (bkX N s t >>> ((2 : Int32) &&& 31)) 3 := (hbk t).trans (if_neg (fun z => h122 (by rw [z]; rfl)))
          refine xiload hk dL_book_129 rfl ?_
          refine xiconst (v := 2) hk dL_book_131 (by decide) ?_
          refine xishr hk dL_book_132 ?_
          refine xiconst (v := 3) hk dL_book_133 (by decide) ?_
          refine xcallS hk (c_L_below (n := 3) (by omega) (by omega)) bL_below kL_107 dL_book_134 rfl rfl (by decide) ⟨by omega, by omega⟩ (Nat.le_of_ble_eq_true rfl) (det ?_)
          first
            | (rw [← hbt]; exact tail)
            | (rw [hbt] at tail; exact tail)
        · have hbt : bk b t = 3 := (hbk t).trans (if_pos ((nI_inj (by have := belowN_lt (v := bkX N s t) (n := 9) (by decide); omega) (by decide)).mp (h122 : nI _ = nI 0)))
          refine xiconst (v := 3) hk dL_book_125 (by decide) ?_
          refine xgoto hk 137 dL_book_126 (by decide) ?_
          first
            | (rw [← hbt]; exact tail)
            | (rw [hbt] at tail; exact tail)
  have loop1 : ∀ (z f c : Nat) (a1 : Nat → Nat) (x1 : XS), bF b - f < z → f ≤ bF b → Bst lay a x qo vo (famT f ++ []) (bF b) b 0 0 [] c a1 x1 → Wx k (3 + 3 * f) (5 + 6000 * f) (LB lay vo c 0 0 ++ []) a1 x1 26 [(0, .ref (sa k 3)), (1, .int 5), (2, .ref (a1 qo)), (3, .ref (a1 lay.length)), (4, .int (nI f))] [] := by
    intro z
    induction z with
    | zero => intro f c a1 x1 h; omega
    | succ z ih =>
      intro f c a1 x1 hz hf hBs
      have hF0 := hBs.2.2.2.1.1
      have hl : ∀ c, (LB lay vo c 0 0 ++ ([] : List Kd)).length = lay.length + 3 := fun c => by rw [List.append_nil, LB_len]
      have hl1 := hl c
      have hft := famT_le f
      refine xiload hk dL_book_26 rfl ?_
      refine xaload_n hk dL_book_28 rfl ?_
      refine xgetI (ci := 9) (f := 0) hk dL_book_29 ⟨rfl, by decide, _, app_o (LB_at 0), rfl⟩ kL_111 ?_
      rw [hF0]
      refine xicmp_ge hk 58 dL_book_32 (by decide) (fun h32 => ?_) (fun h32 => ?_)
      · have hfe : f = bF b := Nat.le_antisymm hf ((nI_leq (by omega) (by omega)).mp h32)
        subst hfe
        refine xlay (lay' := LB lay vo c 0 0) (List.append_nil _) ?_
        refine xaload_n hk dL_book_58 rfl ?_
        refine xiconst (v := 1) hk dL_book_59 (by decide) ?_
        refine xcallS hk (c_L_cell (k := 1) hN0 (by omega)) bL_cell kL_103 dL_book_60 rfl rfl (by decide) ⟨by omega, by omega⟩ (Nat.le_of_ble_eq_true rfl) (det ?_)
        rw [← hsE, ← hNE]
        refine xiconst (v := 2) hk dL_book_63 (by decide) ?_
        refine xaload_n hk dL_book_64 rfl ?_
        refine xgetI (ci := 9) (f := 0) hk dL_book_65 ⟨rfl, by decide, _, LB_at 0, rfl⟩ kL_111 ?_
        rw [hF0]
        refine ximul hk dL_book_68 ?_
        rw [show (2 : Int32) = nI 2 from rfl, mul_nI]
        refine xiconst (v := 3) hk dL_book_69 (by decide) ?_
        refine xiadd hk dL_book_70 ?_
        rw [show (3 : Int32) = nI 3 from rfl, nI_addN]
        refine xcallS hk (c_L_below (n := 2 * bF b + 3) (by omega) (by omega)) bL_below kL_107 dL_book_71 rfl rfl (by decide) ⟨by omega, by omega⟩ (Nat.le_of_ble_eq_true rfl) (det ?_)
        rw [hbS]
        refine xistore hk dL_book_74 (by decide) ?_
        refine xiconst (v := 0) hk dL_book_76 (by decide) ?_
        refine xistore hk dL_book_77 (by decide) ?_
        refine xsub [(0, _), (1, _), (2, _), (3, _), (4, _), (5, _)] rfl ?_
        exact xwiden (by omega) (by omega) (loop2 (bS b + 1) 0 c a1 x1 (by omega) (Nat.zero_le _) hBs)
      · have hfl : f < bF b := Nat.not_le.mp (fun q => h32 ((nI_leq (by omega) (by omega)).mpr q))
        refine xaload_n hk dL_book_35 rfl ?_
        refine xappBL (i := 24) hk dL_book_36 dL_book_38 (by decide) ⟨rfl, rfl⟩ (okb0 hC hO hvl) hvl hql hBs (by simp only [List.length_append, List.length_nil, txl_24]; omega) (by decide) ⟨by omega, by omega⟩ (Nat.le_of_ble_eq_true rfl) (fun c2 a2 x2 hBs2 hK => ?_)
        rw [← hK.1 lay.length (by omega) (by omega)]
        rw [show a1 qo = a2 qo from ((hK.1 qo (by omega) hov).symm)]
        have hl1 := hl c2
        refine xiload hk dL_book_41 rfl ?_
        refine xappBI hk dL_book_43 (okb0 hC hO hvl) hvl hql hBs2 (by omega) (by simp only [List.length_append, List.length_nil, txl_24]; omega) (by decide) ⟨by omega, by omega⟩ (Nat.le_of_ble_eq_true rfl) (fun c3 a3 x3 hBs3 hK => ?_)
        rw [← hK.1 lay.length (by omega) (by omega)]
        rw [show a2 qo = a3 qo from ((hK.1 qo (by omega) hov).symm)]
        have hl1 := hl c3
        have hnb := numB_le f
        refine xappBL (i := 25) hk dL_book_46 dL_book_48 (by decide) ⟨rfl, rfl⟩ (okb0 hC hO hvl) hvl hql hBs3 (by simp only [List.length_append, List.length_nil, txl_24, txl_25]; omega) (by decide) ⟨by omega, by omega⟩ (Nat.le_of_ble_eq_true rfl) (fun c4 a4 x4 hBs4 hK => ?_)
        rw [← hK.1 lay.length (by omega) (by omega)]
        rw [show a3 qo = a4 qo from ((hK.1 qo (by omega) hov).symm)]
        refine xpop hk dL_book_51 rfl ?_
        refine xiinc (v := nI (f + 1)) hk dL_book_52 rfl (by decide) (nI_inc f) ?_
        refine xgoto hk 26 dL_book_55 (by decide) ?_
        have hBs5 : Bst lay a x qo vo (famT (f + 1) ++ []) (bF b) b 0 0 [] c4 a4 x4 := by
          rw [List.append_nil] at hBs4 ⊢; exact hBs4
        exact xwiden (by omega) (by omega) (ih (f + 1) c4 a4 x4 (by omega) (by omega) hBs5)
  exact xsub [(0, _), (1, _), (2, _), (3, _), (4, _)] rfl (xwiden (by omega) (by omega) (loop1 (bF b + 1) 0 cap a2 x2 (by omega) (Nat.zero_le _) hBs0))
