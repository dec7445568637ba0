theorem kL_93 : Cond.methodLink RL 93 yX8_init ∈ GW := gw_mem 28 (by decide +kernel) (by decide +kernel)
theorem kL_96 : Cond.methodLink RL 96 yX10_init ∈ GW := gw_mem 1124 (by decide +kernel) (by decide +kernel)
theorem kcL_8 : Cond.classLink RL 8 RX8 ∈ GW := gw_mem 26 (by decide +kernel) (by decide +kernel)
theorem kinst8 : Cond.instantiable RX8 11 ∈ GW := gw_mem 27 (by decide +kernel) (by decide +kernel)
theorem kini8 : Cond.initialized RX8 ∈ GW := gw_mem 1 (by decide +kernel) (by decide +kernel)
theorem kcL_94 : Cond.classLink RL 94 RX10 ∈ GW := gw_mem 1122 (by decide +kernel) (by decide +kernel)
theorem kinst10 : Cond.instantiable RX10 26 ∈ GW := gw_mem 1123 (by decide +kernel) (by decide +kernel)
theorem kini10 : Cond.initialized RX10 ∈ GW := gw_mem 14 (by decide +kernel) (by decide +kernel)
/-! The law from its entry, over what is to be shown of each call -/
theorem fr_LF : okR LF (fun j => decide (j < LF.length)) = true := by decide +kernel
def sgL : Nat → Nat := fun j => if j < 48 then j else if j = 48 then 69 else 48 + tauN (j - 49)
def XF0 : XS := i_X8_init (clr x00 0)
def XS1 : XS := clr XF0 48
def XS2 : XS := clr (sufX 48 XS1 (i_X10_init (pul 48 XS1))) 69
def XS3 : XS := (fun q k => XS2.1 (sgL q) k, fun q k => XS2.2 (sgL q) k)
theorem XS3_F : cgF XF0 XS3 := by
  intro q hq k
  have e : sgL q = q := if_pos hq
  show XS2.1 (sgL q) k = _ ∧ XS2.2 (sgL q) k = _
  rw [e]
  unfold XS2 clr sufX XS1 clr
  simp only [if_neg (show ¬ q = 69 by omega), if_pos hq, if_neg (show ¬ q = 48 by omega), and_self]
theorem XS3_M : cgM (tauX (i_X10_init (pul 48 XS1))) (pul 49 XS3) := by
  intro q hq k
  have e : sgL (49 + q) = 48 + tauN q := by
    unfold sgL
    rw [if_neg (by omega), if_neg (by omega), Nat.add_sub_cancel_left]
  have ht : tauN q < 21 := by unfold tauN; split <;> (try split) <;> (try split) <;> omega
  show XS2.1 (sgL (49 + q)) k = (i_X10_init (pul 48 XS1)).1 (tauN q) k ∧ XS2.2 (sgL (49 + q)) k = (i_X10_init (pul 48 XS1)).2 (tauN q) k
  rw [e]
  unfold XS2 clr sufX
  simp only [if_neg (show ¬ 48 + tauN q = 69 by omega), if_neg (show ¬ 48 + tauN q < 48 by omega), Nat.add_sub_cancel_left, and_self]
set_option maxHeartbeats 4000000 in
set_option maxRecDepth 100000 in
theorem law_start {k : Kx} {nm : String} (hk : Fok k code 9 RL ret nm 1312 601000 7293000) (hNc : NcK k) (hfl : (kg k).1.stackTraces = false) {b M : Nat} {xs : Nat → Int32} (hsc : ScK k b M xs) (he : EndL k b) (hM : M ≤ 3072) {I : XS → XS → Prop} (HS : Spec I) : Wx k 0 0 [] (fun _ => 0) x00 0 [(0, .ref b)] [] := by
  refine xnew (ci := 8) (ft := [2, 2, 2, 2, 2, 2, 2, 2, 2, 2, 0]) hk tyX8 dL_law_0 kinst8 kini8 tyX8_ok rfl rfl kdX8 kcL_8 (by omega) (by omega) (by decide +kernel) ?_
  intro a1 ha1
  rw [show ([] : List Kd).length = 0 from rfl] at ha1 ⊢
  refine xlay (lay' := YX8_init_0) rfl ?_
  refine xdup hk dL_law_3 rfl ?_
  refine xcallI (n := 0) hk c_X8_init ⟨gw_mem 30 (by decide +kernel) (by decide +kernel), gw_mem 1 (by decide +kernel) (by decide +kernel), by decide +kernel, by decide⟩ (gw_mem 29 (by decide +kernel) (by decide +kernel)) rfl kL_93 dL_law_4 rfl rfl (by decide) ⟨by omega, by omega⟩ (Nat.le_of_ble_eq_true rfl) ?_
  rintro _ _ a2 _ ⟨rfl, rfl, rfl, ha2⟩
  refine xlay (lay' := LF) rfl ?_
  rw [← ha2 0 (Or.inl (by decide))]
  refine xastore_n hk dL_law_7 (by decide) ?_
  refine xnew (ci := 10) (ft := [0, 2, 0, 0, 2, 2, 2, 2, 2, 0, 0, 2, 2, 0, 0, 0, 2, 0, 0, 0, 0, 2, 0, 0, 2, 2]) hk tyX10 dL_law_8 kinst10 kini10 tyX10_ok rfl rfl kdX10 kcL_94 (by omega) (by omega) (by decide +kernel) ?_
  intro a3 ha3
  rw [show LF.length = 48 from rfl] at ha3 ⊢
  rw [← ha3 0 (by decide)]
  refine xlay (lay' := sufL LF YX10_init_0) rfl ?_
  refine xdup hk dL_law_11 rfl ?_
  refine xcallIQ (fr := LF) (a1 := fun j => a3 (48 + j)) (x0 := pul 48 XS1) (n := 0) fr_LF rfl rfl hk c_X10_init ⟨gw_mem 1126 (by decide +kernel) (by decide +kernel), gw_mem 14 (by decide +kernel) (by decide +kernel), by decide +kernel, by decide⟩ (gw_mem 1125 (by decide +kernel) (by decide +kernel)) rfl kL_96 dL_law_12 rfl rfl (by decide) ⟨by omega, by omega⟩ (Nat.le_of_ble_eq_true rfl) ?_
  rintro _ _ a4 _ ⟨rfl, rfl, rfl, ha4⟩
  rw [show LF.length = 48 from rfl]
  have hA0 : sufA 48 a3 a4 0 = a3 0 := if_pos (by decide)
  have hA48 : sufA 48 a3 a4 48 = a3 48 := (if_neg (by decide)).trans (ha4 0 (Or.inl (by decide)))
  generalize sufA 48 a3 a4 = a5 at hA0 hA48 ⊢
  rw [← hA0, ← hA48]
  refine xastore_n hk dL_law_15 (by decide) ?_
  refine xiconst (v := 1) hk dL_law_16 (by decide) ?_
  refine xnewL (N := 1) hk dL_law_17 (by decide) (by decide) (Nat.le_of_ble_eq_true rfl) (by omega) (by omega) (by decide +kernel) ?_
  intro a6 ha6
  rw [show (sufL LF X10_init_y24).length = 69 from rfl] at ha6 ⊢
  rw [← ha6 0 (by decide), ← ha6 48 (by decide)]
  refine xastore_n hk dL_law_19 (by decide) ?_
  refine xiconst (v := 0) hk dL_law_20 (by decide) ?_
  refine xistore hk dL_law_21 (by decide) ?_
  refine xmap (lay' := LL) (x' := XS3) sgL (by decide +kernel) (by decide +kernel) (fun q hq k => ⟨rfl, rfl⟩) ?_
  have g0 : (fun j => a6 (sgL j)) 0 = a6 0 := rfl
  have g48 : (fun j => a6 (sgL j)) 48 = a6 69 := rfl
  have g49 : (fun j => a6 (sgL j)) 49 = a6 48 := rfl
  generalize (fun j => a6 (sgL j)) = a7 at g0 g48 g49 ⊢
  rw [← g0, ← g48, ← g49]
  refine xsub [(0, .ref b), (1, .ref (a7 0)), (2, .ref (a7 49)), (3, .ref (a7 48)), (4, .int (nI 0))] rfl ?_
  exact law_loop hk hNc hfl hsc he hM HS 512 0 a7 XS3 _ _ (by omega) (by omega) (by omega) (by omega) (HS.1 HS.2.2.1 XS3_F XS3_M)
theorem gw_hts {s : State} {b : Nat} (hts : ∀ w ∈ lw_tbl, w.before #[Value.ref b] s = true) : ∀ w ∈ GW, w.before #[Value.ref b] s = true := fun w hw => hts w (List.mem_filter.mp hw).1
theorem whole_start_I {I : XS → XS → Prop} (HS : Spec I) {p : Program} {e : Env} {s : State} {m : MethodId} {below : List Frame} {meth : Method} {c : Code} (l : Launch) (hflags : l.flags = flags0) {b L : Nat} {xs : Nat → Int32} (hL : L ≤ 3072) (C0 : lw_At p s m meth c b L xs) : W p l e room_1 s m #[Value.ref b] below meth c s.heap [] 0 0 (lw_Z below #[Value.ref b] s) (entryFrame m ([Value.ref b] : List Value).toArray 9) := by
  obtain ⟨hx, hb, hr, hml, hown, hts, hX, hbl, hlocks, hgv⟩ := C0
  obtain ⟨D, T, hK⟩ := K_at hts
  obtain ⟨sa, hSg⟩ := Sg_at hts hgv
  have hNc := Nc_at hgv
  have hfl : l.stackTraces = false := by
    have : l.stackTraces = (({ l with flags := flags0 } : Launch)).stackTraces := by rw [← hflags]
    rw [this]; rfl
  have hl := lv_entry ([.ref b]) (n := 9) (Nat.le_of_ble_eq_true rfl)
  rw [lg_entry_eq]
  refine W_room (R' := roomX 1312 601000 7293000) (Nat.le_of_ble_eq_true rfl) (Nat.le_of_ble_eq_true rfl) (Nat.le_of_ble_eq_true rfl) (Nat.le_of_ble_eq_true rfl) ?_
  have hW := law_start (k := (p, e, s, m, #[Value.ref b], below, meth, c, lw_Z below #[Value.ref b] s, (fun q => s.heap.size ≤ q), roomX 1312 601000 7293000, (l, D, T, s.heap.size, sa))) (nm := meth.name)
    ⟨hx, hb, hml, hown, gw_hts hts, hr, hlocks, hK, fun _ h => h, fun _ h => h, rfl, hSg (l, D, T, s.heap.size, sa) rfl rfl, rfl, Nat.le_refl _⟩ hNc hfl ⟨hX, hbl, Nat.not_le.mpr hbl⟩ ⟨rfl, rfl, rfl⟩ hL HS
  exact hW s.heap [] _ (fun k q h => by simp [wl] at h) ⟨fun i j p q h => by simp [wl] at h, fun k q h => by simp [wl] at h⟩ va_S.rf (by rw [hml]; exact hl)
