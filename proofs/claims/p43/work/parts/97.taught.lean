theorem bX8_trim : CBv yX8_trim cX8_trim 2 (some .int) 1 := ⟨⟨gw_mem 948 (by decide +kernel) (by decide +kernel), gw_mem 13 (by decide +kernel) (by decide +kernel), by decide +kernel, by decide⟩, gw_mem 946 (by decide +kernel) (by decide +kernel), gw_mem 947 (by decide +kernel) (by decide +kernel)⟩
theorem kL_9 : Cond.methodLink RL 9 yX8_trim ∈ GW := gw_mem 945 (by decide +kernel) (by decide +kernel)
theorem bX8_teach : CBv yX8_teach cX8_teach 2 (some .int) 0 := ⟨⟨gw_mem 964 (by decide +kernel) (by decide +kernel), gw_mem 13 (by decide +kernel) (by decide +kernel), by decide +kernel, by decide⟩, gw_mem 962 (by decide +kernel) (by decide +kernel), gw_mem 963 (by decide +kernel) (by decide +kernel)⟩
theorem kL_15 : Cond.methodLink RL 15 yJ0_length_8abf5 ∈ GW := gw_mem 950 (by decide +kernel) (by decide +kernel)
theorem kL_29 : Cond.methodLink RL 29 yX8_teach ∈ GW := gw_mem 961 (by decide +kernel) (by decide +kernel)
theorem kL_21 : Cond.methodLink RL 21 yJ0_charAt_5068e ∈ GW := gw_mem 951 (by decide +kernel) (by decide +kernel)
theorem bX8_feed : CBv yX8_feed cX8_feed 6 (some .int) 5 := ⟨⟨gw_mem 955 (by decide +kernel) (by decide +kernel), gw_mem 13 (by decide +kernel) (by decide +kernel), by decide +kernel, by decide⟩, gw_mem 953 (by decide +kernel) (by decide +kernel), gw_mem 954 (by decide +kernel) (by decide +kernel)⟩
theorem kL_25 : Cond.methodLink RL 25 yX8_feed ∈ GW := gw_mem 952 (by decide +kernel) (by decide +kernel)
/-! taught: a text is fed, trimmed and taught -/
def tyB (ts : List Int32) (j : Nat) : Nat := if j < ts.length then (ts.getD j 0).toNatClampNeg else 32
theorem tyB_lt {ts : List Int32} (h : Asc ts) (j : Nat) : tyB ts j < 128 := by
  unfold tyB
  split
  · rename_i hj
    obtain ⟨n, hn, e⟩ := h.at hj
    rw [e, nI_clamp (by omega)]; exact hn
  · decide
theorem tyB_v {ts : List Int32} (h : Asc ts) {j : Nat} (hj : j < ts.length) : ts.getD j 0 = nI (tyB ts j) := by
  obtain ⟨n, hn, e⟩ := h.at hj
  rw [tyB, if_pos hj, e, nI_clamp (by omega)]
def shB (v : Int32) (b : Nat) : Int32 := v <<< ((8 : Int32) &&& 31) ||| nI b
/-- the five ints after k of a chunk's bytes -/
def fiveP (o : Nat → Int32) (t : Nat → Nat) (n : Nat) : Nat → Nat → Int32
  | 0, i => o i
  | k + 1, i => if i = k / 4 then shB (fiveP o t n k i) (t (n + k)) else fiveP o t n k i
theorem five_at (o : Nat → Int32) (t : Nat → Nat) (n : Nat) : ∀ i, i < 5 → fiveP o t n 20 i = packW (o i) (t (n + 4 * i)) (t (n + 4 * i + 1)) (t (n + 4 * i + 2)) (t (n + 4 * i + 3))
  | 0, _ => rfl
  | 1, _ => rfl
  | 2, _ => rfl
  | 3, _ => rfl
  | 4, _ => rfl
  | i + 5, h => absurd h (by omega)
theorem trim_ok {x : XS} {n p : Nat} (h : x.1 1 1 = nI n) (hp : p ≤ n) (hn : n < 2 ^ 20) : f_X8_trim (nI p) x = some (.inr (some (.int (nI p)), setI x 1 1 (nI p))) := by
  unfold f_X8_trim
  rw [if_neg (nI_pos (by omega)), h, if_pos ((nI_leq (by omega) (by omega)).mpr hp)]
def TgE (lay : List Kd) (a : Nat → Nat) (x : XS) (ts : List Int32) : Option Value → List Kd → (Nat → Nat) → XS → Prop := fun r lay' a' x' => ∃ xt : XS, Tape xt ts.length (tyB ts) ∧ (∀ i, i < 48 → i ≠ 1 → i ≠ 2 → ∀ j, xt.1 i j = x.1 i j ∧ xt.2 i j = x.2 i j) ∧ r = some (.int ((readF (setI (scanF xt) 1 1 0)).1 34 5)) ∧ lay' = lay ++ [.inr (0, 5)] ∧ (∀ j, j < lay.length → a' j = a j) ∧ (∀ i, i < 48 → ∀ j, x'.1 i j = (teachF xt).1 i j ∧ x'.2 i j = (teachF xt).2 i j) ∧ ∀ i, 48 ≤ i → i < lay.length → ∀ j, x'.1 i j = x.1 i j ∧ x'.2 i j = x.2 i j
set_option maxHeartbeats 4000000 in
set_option maxRecDepth 100000 in
theorem c_L_taught {g : Gx} {a : Nat → Nat} {x : XS} {lay : List Kd} {p w n0 : Nat} {ts : List Int32} (hI : IsL lay) (hC : Cl lay) (hfl : g.1.stackTraces = false) (hD : StrD lay x p w ts) (hA : Asc ts) (hlen : ts.length ≤ 1900) (h48 : 48 ≤ p ∧ 48 ≤ w) (h0 : x.1 1 1 = nI n0) (hn0 : n0 < 2 ^ 20) : Mz g yL_taught cL_taught 5 (some .int) 85 500 4000 lay a x [.ref (a 0), .ref (a p)] (TgE lay a x ts) := by
  refine Mz_of (by decide +kernel) (Nat.le_of_ble_eq_true rfl) ?_
  intro k hk he hg
  subst hg
  obtain ⟨R, rfl⟩ := hI
  have hpl := at_lt hD.1
  have hwl := at_lt hD.2.1
  have hl48 : 48 ≤ (LF ++ R).length := by omega
  refine xiconst (v := 5) hk dL_taught_0 (by decide) ?_
  refine xnewI (N := 5) hk dL_taught_1 (by decide) (by decide) (by decide) (by omega) (by omega) (okR_new hC) (fun a2 ha2 => ?_)
  rw [← ha2 0 (by omega), ← ha2 p (by omega)]
  have hc2 : ∀ i, i < (LF ++ R).length → ∀ j, (clr x (LF ++ R).length).1 i j = x.1 i j ∧ (clr x (LF ++ R).length).2 i j = x.2 i j := fun i hi j => clr_o i hi j
  refine xlay (lay' := LF ++ (R ++ [.inr (0, 5)])) (List.append_assoc _ _ _) ?_
  have hgen : ∀ x2 : XS, (∀ i, 48 ≤ i → i < (LF ++ R).length → ∀ j, x2.1 i j = x.1 i j ∧ x2.2 i j = x.2 i j) → StrD (LF ++ (R ++ [.inr (0, 5)])) x2 p w ts := fun x2 h => by
    rw [← List.append_assoc]
    exact ⟨app_o hD.1, app_o hD.2.1, ((h p h48.1 hpl 1).1).trans hD.2.2.1, fun j hj => ((h w h48.2 hwl j).1).trans (hD.2.2.2 j hj)⟩
  have h5 : (LF ++ (R ++ [(.inr (0, 5) : Kd)]))[(LF ++ R).length]? = some (.inr (0, 5)) := by rw [← List.append_assoc]; exact app_n
  refine xastore_n hk dL_taught_3 (by decide) ?_
  refine xaload_n hk dL_taught_4 rfl ?_
  refine xiconst (v := 0) hk dL_taught_5 (by decide) ?_
  refine xcallVTO (q := 0) 0 (sub_LF _) (r := .inr (some (.int (nI 0)), setI (clr x (LF ++ R).length) 1 1 (nI 0))) rfl (a1 := a2) (by funext j; rw [Nat.zero_add]) (pul0 _) hk (c_X8_trim hfl (trim_ok (p := 0) (((hc2 1 (by omega) 1).1).trans h0) (Nat.zero_le _) hn0)) bX8_trim kL_9 dL_taught_6 rfl ⟨_, _, _, _, rfl, rfl⟩ rfl (by decide) ⟨by omega, by omega⟩ (Nat.le_of_ble_eq_true rfl) ?_
  refine xpop hk dL_taught_9 rfl ?_
  refine xiconst (v := 0) hk dL_taught_10 (by decide) ?_
  refine xistore_n hk dL_taught_11 (by decide) ?_
  have hx0 : Tape (xmix 0 LF.length (setI (clr x (LF ++ R).length) 1 1 (nI 0)) (clr x (LF ++ R).length)) 0 (tyB ts) := ⟨((mix_in (show 1 < 48 by decide) 1).1).trans (by simp [setI]), fun k hk => absurd hk (Nat.not_lt_zero _)⟩
  have hx1 : ∀ i, i < 48 → i ≠ 1 → i ≠ 2 → ∀ j, (xmix 0 LF.length (setI (clr x (LF ++ R).length) 1 1 (nI 0)) (clr x (LF ++ R).length)).1 i j = x.1 i j ∧ (xmix 0 LF.length (setI (clr x (LF ++ R).length) 1 1 (nI 0)) (clr x (LF ++ R).length)).2 i j = x.2 i j := fun i hi e1 e2 j => by
    have h1 := mix_in (x1 := setI (clr x (LF ++ R).length) 1 1 (nI 0)) (x := clr x (LF ++ R).length) hi j
    have h2 := hc2 i (by omega) j
    exact ⟨(h1.1.trans (setI_ne e1)).trans h2.1, h1.2.trans h2.2⟩
  have hx2 : ∀ i, 48 ≤ i → i < (LF ++ R).length → ∀ j, (xmix 0 LF.length (setI (clr x (LF ++ R).length) 1 1 (nI 0)) (clr x (LF ++ R).length)).1 i j = x.1 i j ∧ (xmix 0 LF.length (setI (clr x (LF ++ R).length) 1 1 (nI 0)) (clr x (LF ++ R).length)).2 i j = x.2 i j := fun i hi hi2 j => by
    have h1 := mix_out (x1 := setI (clr x (LF ++ R).length) 1 1 (nI 0)) (x := clr x (LF ++ R).length) hi j
    have h2 := hc2 i hi2 j
    exact ⟨h1.1.trans h2.1, h1.2.trans h2.2⟩
  generalize xmix 0 LF.length (setI (clr x (LF ++ R).length) 1 1 (nI 0)) (clr x (LF ++ R).length) = xs at hx0 hx1 hx2 ⊢
  have outer : ∀ (z c n : Nat) (x2 : XS), n = 20 * c → ts.length < n + 20 * z → n < ts.length + 20 → Tape x2 n (tyB ts) → (∀ i, i < 48 → i ≠ 1 → i ≠ 2 → ∀ j, x2.1 i j = x.1 i j ∧ x2.2 i j = x.2 i j) → (∀ i, 48 ≤ i → i < (LF ++ R).length → ∀ j, x2.1 i j = x.1 i j ∧ x2.2 i j = x.2 i j) → Wx k (4 + 3 * c) (23 + 18 * c) (LF ++ (R ++ [.inr (0, 5)])) a2 x2 12 [(0, .ref (a2 0)), (1, .ref (a2 p)), (2, .ref (a2 (LF ++ R).length)), (3, .int (nI n))] [] := by
    intro z
    induction z with
    | zero =>
      intro c n x2 hn hz hnl hT h1 h2
      have hD2 := hgen x2 h2
      refine xiload_n hk dL_taught_12 rfl ?_
      refine xaload_n hk dL_taught_13 rfl ?_
      refine xcallStr hk (Or.inr ⟨p, w, hD2, rfl⟩) (c_lengthD hD2) bJ0_length_8abf5 kL_15 dL_taught_14 rfl rfl rfl (by decide) ⟨by omega, by omega⟩ (Nat.le_of_ble_eq_true rfl) (det ?_)
      refine xicmp_ge hk 102 dL_taught_17 (by decide) (fun h17 => ?_) (fun h17 => ?_)
      · have hge : ts.length ≤ n := (nI_leq (by omega) (by omega)).mp h17
        refine xaload_n hk dL_taught_102 rfl ?_
        refine xaload_n hk dL_taught_103 rfl ?_
        refine xcallStr hk (Or.inr ⟨p, w, hD2, rfl⟩) (c_lengthD hD2) bJ0_length_8abf5 kL_15 dL_taught_104 rfl rfl rfl (by decide) ⟨by omega, by omega⟩ (Nat.le_of_ble_eq_true rfl) (det ?_)
        have hTt : 1 * ts.length ≤ n := by omega
        refine xcallVTO (q := 0) 0 (sub_LF _) (r := .inr (some (.int (nI ts.length)), setI x2 1 1 (nI ts.length))) rfl (a1 := a2) (by funext j; rw [Nat.zero_add]) (pul0 _) hk (c_X8_trim hfl (trim_ok (p := ts.length) hT.1 (by omega) (by omega))) bX8_trim kL_9 dL_taught_107 rfl ⟨_, _, _, _, rfl, rfl⟩ rfl (by decide) ⟨by omega, by omega⟩ (Nat.le_of_ble_eq_true rfl) ?_
        refine xpop hk dL_taught_110 rfl ?_
        refine xaload_n hk dL_taught_111 rfl ?_
        have ht1 : Tape (xmix 0 LF.length (setI x2 1 1 (nI ts.length)) x2) ts.length (tyB ts) := ⟨((mix_in (show 1 < 48 by decide) 1).1).trans (by simp [setI]), fun kq hk => ((mix_in (show 2 < 48 by decide) kq).1).trans ((setI_ne (by decide)).trans (hT.2 kq (by omega)))⟩
        have ht2 : ∀ i, i < 48 → i ≠ 1 → i ≠ 2 → ∀ j, (xmix 0 LF.length (setI x2 1 1 (nI ts.length)) x2).1 i j = x.1 i j ∧ (xmix 0 LF.length (setI x2 1 1 (nI ts.length)) x2).2 i j = x.2 i j := fun i hi e1 e2 j => by
          have g1 := mix_in (x1 := setI x2 1 1 (nI ts.length)) (x := x2) hi j
          have g2 := h1 i hi e1 e2 j
          exact ⟨(g1.1.trans (setI_ne e1)).trans g2.1, g1.2.trans g2.2⟩
        have ht3 : ∀ i, 48 ≤ i → i < (LF ++ R).length → ∀ j, (xmix 0 LF.length (setI x2 1 1 (nI ts.length)) x2).1 i j = x.1 i j ∧ (xmix 0 LF.length (setI x2 1 1 (nI ts.length)) x2).2 i j = x.2 i j := fun i hi hi2 j => by
          have g1 := mix_out (x1 := setI x2 1 1 (nI ts.length)) (x := x2) hi j
          have g2 := h2 i hi hi2 j
          exact ⟨g1.1.trans g2.1, g1.2.trans g2.2⟩
        generalize xmix 0 LF.length (setI x2 1 1 (nI ts.length)) x2 = xt at ht1 ht2 ht3 ⊢
        have hM := c_X8_teach (g := kg k) (a := a2) (x := xt)
        generalize hrd : (readF (setI (scanF xt) 1 1 0)).1 34 5 = rv at hM
        generalize htf : teachF xt = tf at hM
        refine xcallVO (q := 0) 0 (sub_LF _) (a1 := a2) (by funext j; rw [Nat.zero_add]) (pul0 xt) hk hM bX8_teach kL_29 dL_taught_112 rfl ⟨_, _, _, _, rfl, rfl⟩ rfl (by decide) ⟨by omega, by omega⟩ (Nat.le_of_ble_eq_true rfl) (det ?_)
        refine xiretZ hk he dL_taught_115 ⟨by omega, by omega⟩ ?_
        refine ⟨xt, ht1, ht2, by rw [hrd], (List.append_assoc _ _ _).symm, fun j hj => ha2 j (Nat.ne_of_lt hj), fun i hi j => by rw [htf]; exact mix_in hi j, fun i hi hi2 j => ?_⟩
        have g1 := mix_out (x1 := tf) (x := xt) hi j
        have g2 := ht3 i hi hi2 j
        exact ⟨g1.1.trans g2.1, g1.2.trans g2.2⟩
      · exact absurd ((nI_leq (by omega) (by omega)).mpr (by omega)) h17
    | succ z ih =>
      intro c n x2 hn hz hnl hT h1 h2
      have hD2 := hgen x2 h2
      refine xiload_n hk dL_taught_12 rfl ?_
      refine xaload_n hk dL_taught_13 rfl ?_
      refine xcallStr hk (Or.inr ⟨p, w, hD2, rfl⟩) (c_lengthD hD2) bJ0_length_8abf5 kL_15 dL_taught_14 rfl rfl rfl (by decide) ⟨by omega, by omega⟩ (Nat.le_of_ble_eq_true rfl) (det ?_)
      refine xicmp_ge hk 102 dL_taught_17 (by decide) (fun h17 => ?_) (fun h17 => ?_)
      · have hge : ts.length ≤ n := (nI_leq (by omega) (by omega)).mp h17
        refine xaload_n hk dL_taught_102 rfl ?_
        refine xaload_n hk dL_taught_103 rfl ?_
        refine xcallStr hk (Or.inr ⟨p, w, hD2, rfl⟩) (c_lengthD hD2) bJ0_length_8abf5 kL_15 dL_taught_104 rfl rfl rfl (by decide) ⟨by omega, by omega⟩ (Nat.le_of_ble_eq_true rfl) (det ?_)
        have hTt : 1 * ts.length ≤ n := by omega
        refine xcallVTO (q := 0) 0 (sub_LF _) (r := .inr (some (.int (nI ts.length)), setI x2 1 1 (nI ts.length))) rfl (a1 := a2) (by funext j; rw [Nat.zero_add]) (pul0 _) hk (c_X8_trim hfl (trim_ok (p := ts.length) hT.1 (by omega) (by omega))) bX8_trim kL_9 dL_taught_107 rfl ⟨_, _, _, _, rfl, rfl⟩ rfl (by decide) ⟨by omega, by omega⟩ (Nat.le_of_ble_eq_true rfl) ?_
        refine xpop hk dL_taught_110 rfl ?_
        refine xaload_n hk dL_taught_111 rfl ?_
        have ht1 : Tape (xmix 0 LF.length (setI x2 1 1 (nI ts.length)) x2) ts.length (tyB ts) := ⟨((mix_in (show 1 < 48 by decide) 1).1).trans (by simp [setI]), fun kq hk => ((mix_in (show 2 < 48 by decide) kq).1).trans ((setI_ne (by decide)).trans (hT.2 kq (by omega)))⟩
        have ht2 : ∀ i, i < 48 → i ≠ 1 → i ≠ 2 → ∀ j, (xmix 0 LF.length (setI x2 1 1 (nI ts.length)) x2).1 i j = x.1 i j ∧ (xmix 0 LF.length (setI x2 1 1 (nI ts.length)) x2).2 i j = x.2 i j := fun i hi e1 e2 j => by
          have g1 := mix_in (x1 := setI x2 1 1 (nI ts.length)) (x := x2) hi j
          have g2 := h1 i hi e1 e2 j
          exact ⟨(g1.1.trans (setI_ne e1)).trans g2.1, g1.2.trans g2.2⟩
        have ht3 : ∀ i, 48 ≤ i → i < (LF ++ R).length → ∀ j, (xmix 0 LF.length (setI x2 1 1 (nI ts.length)) x2).1 i j = x.1 i j ∧ (xmix 0 LF.length (setI x2 1 1 (nI ts.length)) x2).2 i j = x.2 i j := fun i hi hi2 j => by
          have g1 := mix_out (x1 := setI x2 1 1 (nI ts.length)) (x := x2) hi j
          have g2 := h2 i hi hi2 j
          exact ⟨g1.1.trans g2.1, g1.2.trans g2.2⟩
        generalize xmix 0 LF.length (setI x2 1 1 (nI ts.length)) x2 = xt at ht1 ht2 ht3 ⊢
        have hM := c_X8_teach (g := kg k) (a := a2) (x := xt)
        generalize hrd : (readF (setI (scanF xt) 1 1 0)).1 34 5 = rv at hM
        generalize htf : teachF xt = tf at hM
        refine xcallVO (q := 0) 0 (sub_LF _) (a1 := a2) (by funext j; rw [Nat.zero_add]) (pul0 xt) hk hM bX8_teach kL_29 dL_taught_112 rfl ⟨_, _, _, _, rfl, rfl⟩ rfl (by decide) ⟨by omega, by omega⟩ (Nat.le_of_ble_eq_true rfl) (det ?_)
        refine xiretZ hk he dL_taught_115 ⟨by omega, by omega⟩ ?_
        refine ⟨xt, ht1, ht2, by rw [hrd], (List.append_assoc _ _ _).symm, fun j hj => ha2 j (Nat.ne_of_lt hj), fun i hi j => by rw [htf]; exact mix_in hi j, fun i hi hi2 j => ?_⟩
        have g1 := mix_out (x1 := tf) (x := xt) hi j
        have g2 := ht3 i hi hi2 j
        exact ⟨g1.1.trans g2.1, g1.2.trans g2.2⟩
      · have hlt : n < ts.length := Nat.not_le.mp (fun u => h17 ((nI_leq (by omega) (by omega)).mpr u))
        have inner : ∀ (y kq : Nat) (x3 : XS), 20 - kq < y → kq ≤ 20 → (∀ i, i ≠ (LF ++ R).length → ∀ j, x3.1 i j = x2.1 i j ∧ x3.2 i j = x2.2 i j) → (∀ i, i < 5 → x3.1 (LF ++ R).length i = fiveP (fun i => x2.1 (LF ++ R).length i) (tyB ts) n kq i) → Wx k (4 + 3 * c) (23 + 18 * c) (LF ++ (R ++ [.inr (0, 5)])) a2 x3 23 [(0, .ref (a2 0)), (1, .ref (a2 p)), (2, .ref (a2 (LF ++ R).length)), (3, .int (nI n)), (4, .int (nI kq))] [] := by
          intro y
          induction y with
          | zero => intro kq x3 h; omega
          | succ y ihk =>
            intro kq x3 hy hkl hx3 h53
            have hD2 := hgen x3 (fun i g1 g2 j => ⟨((hx3 i (by omega) j).1).trans (h2 i g1 g2 j).1, ((hx3 i (by omega) j).2).trans (h2 i g1 g2 j).2⟩)
            refine xiload hk dL_taught_23 rfl ?_
            refine xbipush (v := 20) hk dL_taught_25 (by decide) ?_
            refine xicmp_ge hk 76 dL_taught_27 (by decide) (fun h27 => ?_) (fun h27 => ?_)
            · have hke : kq = 20 := Nat.le_antisymm hkl ((nI_leq (a := 20) (by decide) (by omega)).mp h27)
              subst hke
              refine xaload_n hk dL_taught_76 rfl ?_
              refine xaload_n hk dL_taught_77 rfl ?_
              refine xiconst (v := 0) hk dL_taught_78 (by decide) ?_
              refine xiald hk dL_taught_79 h5 (show vp_in (nI 0) 5 from vp_in_nI (by decide) (by decide)) ?_
              rw [show x3.1 (LF ++ R).length (Int32.toNatClampNeg 0) = _ from (h53 0 (by decide)).trans (five_at _ _ _ 0 (by decide))]
              refine xaload_n hk dL_taught_80 rfl ?_
              refine xiconst (v := 1) hk dL_taught_81 (by decide) ?_
              refine xiald hk dL_taught_82 h5 (show vp_in (nI 1) 5 from vp_in_nI (by decide) (by decide)) ?_
              rw [show x3.1 (LF ++ R).length (Int32.toNatClampNeg 1) = _ from (h53 1 (by decide)).trans (five_at _ _ _ 1 (by decide))]
              refine xaload_n hk dL_taught_83 rfl ?_
              refine xiconst (v := 2) hk dL_taught_84 (by decide) ?_
              refine xiald hk dL_taught_85 h5 (show vp_in (nI 2) 5 from vp_in_nI (by decide) (by decide)) ?_
              rw [show x3.1 (LF ++ R).length (Int32.toNatClampNeg 2) = _ from (h53 2 (by decide)).trans (five_at _ _ _ 2 (by decide))]
              refine xaload_n hk dL_taught_86 rfl ?_
              refine xiconst (v := 3) hk dL_taught_87 (by decide) ?_
              refine xiald hk dL_taught_88 h5 (show vp_in (nI 3) 5 from vp_in_nI (by decide) (by decide)) ?_
              rw [show x3.1 (LF ++ R).length (Int32.toNatClampNeg 3) = _ from (h53 3 (by decide)).trans (five_at _ _ _ 3 (by decide))]
              refine xaload_n hk dL_taught_89 rfl ?_
              refine xiconst (v := 4) hk dL_taught_90 (by decide) ?_
              refine xiald hk dL_taught_91 h5 (show vp_in (nI 4) 5 from vp_in_nI (by decide) (by decide)) ?_
              rw [show x3.1 (LF ++ R).length (Int32.toNatClampNeg 4) = _ from (h53 4 (by decide)).trans (five_at _ _ _ 4 (by decide))]
              have hT3 : Tape x3 n (tyB ts) := ⟨((hx3 1 (by omega) 1).1).trans hT.1, fun kq hk => ((hx3 2 (by omega) kq).1).trans (hT.2 kq hk)⟩
              obtain ⟨x4, e4, hT4, hK4⟩ := feed_tape hT3 (by omega) (tyB_lt hA) (x2.1 (LF ++ R).length 0) (x2.1 (LF ++ R).length 1) (x2.1 (LF ++ R).length 2) (x2.1 (LF ++ R).length 3) (x2.1 (LF ++ R).length 4)
              refine xcallVTO (q := 0) 0 (sub_LF _) (r := .inr (some (.int (nI (n + 20))), x4)) rfl (a1 := a2) (by funext j; rw [Nat.zero_add]) (pul0 _) hk (c_X8_feed hfl e4) bX8_feed kL_25 dL_taught_92 rfl ⟨_, _, _, _, rfl, rfl⟩ rfl (by decide) ⟨by omega, by omega⟩ (Nat.le_of_ble_eq_true rfl) ?_
              refine xpop hk dL_taught_95 rfl ?_
              refine xiinc (v := nI (n + 20)) hk dL_taught_96 rfl (by decide) (nI_addN n 20) ?_
              refine xgoto hk 12 dL_taught_99 (by decide) ?_
              refine xsub [(0, _), (1, _), (2, _), (3, _)] rfl ?_
              refine xwiden (by omega) (by omega) (ih (c + 1) (n + 20) _ (by omega) (by omega) (by omega) ⟨((mix_in (show 1 < 48 by decide) 1).1).trans hT4.1, fun kq hk => ((mix_in (show 2 < 48 by decide) kq).1).trans (hT4.2 kq hk)⟩ (fun i hi e1 e2 j => ?_) (fun i hi hi2 j => ?_))
              · have g1 := mix_in (x1 := x4) (x := x3) hi j
                have g2 := hK4 i e1 e2 j
                have g3 := hx3 i (by omega) j
                have g4 := h1 i hi e1 e2 j
                exact ⟨((g1.1.trans g2.1).trans g3.1).trans g4.1, ((g1.2.trans g2.2).trans g3.2).trans g4.2⟩
              · have g1 := mix_out (x1 := x4) (x := x3) hi j
                have g3 := hx3 i (by omega) j
                have g4 := h2 i hi hi2 j
                exact ⟨(g1.1.trans g3.1).trans g4.1, (g1.2.trans g3.2).trans g4.2⟩
            · have hk20 : kq < 20 := Nat.not_le.mp (fun u => h27 ((nI_leq (a := 20) (by decide) (by omega)).mpr u))
              refine xaload_n hk dL_taught_30 rfl ?_
              refine xiload hk dL_taught_31 rfl ?_
              refine xiconst (v := 4) hk dL_taught_33 (by decide) ?_
              refine xidiv hk dL_taught_34 (by decide) ?_
              rw [show (4 : Int32) = nI 4 from rfl, div_nI (by omega) (by decide) (by decide)]
              refine xaload_n hk dL_taught_35 rfl ?_
              refine xiload hk dL_taught_36 rfl ?_
              refine xiconst (v := 4) hk dL_taught_38 (by decide) ?_
              refine xidiv hk dL_taught_39 (by decide) ?_
              rw [show (4 : Int32) = nI 4 from rfl, div_nI (by omega) (by decide) (by decide)]
              refine xiald hk dL_taught_40 h5 (show vp_in (nI (kq / 4)) 5 from vp_in_nI (by omega) (by decide)) ?_
              rw [nI_clamp (by omega)]
              refine xbipush (v := 8) hk dL_taught_41 (by decide) ?_
              refine xishl hk dL_taught_43 ?_
              refine xiload_n hk dL_taught_44 rfl ?_
              refine xiload hk dL_taught_45 rfl ?_
              refine xiadd hk dL_taught_47 ?_
              rw [nI_addN]
              refine xaload_n hk dL_taught_48 rfl ?_
              refine xcallStr hk (Or.inr ⟨p, w, hD2, rfl⟩) (c_lengthD hD2) bJ0_length_8abf5 kL_15 dL_taught_49 rfl rfl rfl (by decide) ⟨by omega, by omega⟩ (Nat.le_of_ble_eq_true rfl) (det ?_)
              refine xicmp_ge hk 66 dL_taught_52 (by decide) (fun h52 => ?_) (fun h52 => ?_)
              · have hcl : ¬ n + kq < ts.length := Nat.not_lt.mpr ((nI_leq (by omega) (by omega)).mp h52)
                have h32 : (32 : Int32) = nI (tyB ts (n + kq)) := by rw [tyB, if_neg hcl]; rfl
                refine xbipush (v := 32) hk dL_taught_66 (by decide) ?_
                rw [h32]
                refine xior hk dL_taught_68 ?_
                refine xiast hk dL_taught_69 h5 (show vp_in (nI (kq / 4)) 5 from vp_in_nI (by omega) (by decide)) ?_
                rw [nI_clamp (by omega)]
                refine xiinc (v := nI (kq + 1)) hk dL_taught_70 rfl (by decide) (nI_inc kq) ?_
                refine xgoto hk 23 dL_taught_73 (by decide) ?_
                refine ihk (kq + 1) _ (by omega) (by omega) (fun i hi j => ⟨(setI_ne hi).trans (hx3 i hi j).1, (hx3 i hi j).2⟩) (fun i hi => ?_)
                show (if (LF ++ R).length = (LF ++ R).length ∧ i = kq / 4 then _ else x3.1 (LF ++ R).length i) = if i = kq / 4 then _ else _
                by_cases e : i = kq / 4
                · rw [if_pos ⟨rfl, e⟩, if_pos e, h53 _ (by omega)]
                  rw [e]; rfl
                · rw [if_neg (fun u => e u.2), if_neg e]; exact h53 i hi
              · have hcl : n + kq < ts.length := Nat.not_le.mp (fun u => h52 ((nI_leq (by omega) (by omega)).mpr u))
                refine xaload_n hk dL_taught_55 rfl ?_
                refine xiload_n hk dL_taught_56 rfl ?_
                refine xiload hk dL_taught_57 rfl ?_
                refine xiadd hk dL_taught_59 ?_
                rw [nI_addN]
                refine xcallV hk (c_charAtD hD2 hA hcl (by omega)) bJ0_charAt_5068e kL_21 dL_taught_60 rfl ⟨_, _, _, _, hD2.1, rfl⟩ rfl (by decide) ⟨by omega, by omega⟩ (Nat.le_of_ble_eq_true rfl) (det ?_)
                rw [tyB_v hA hcl]
                refine xgoto hk 68 dL_taught_63 (by decide) ?_
                refine xior hk dL_taught_68 ?_
                refine xiast hk dL_taught_69 h5 (show vp_in (nI (kq / 4)) 5 from vp_in_nI (by omega) (by decide)) ?_
                rw [nI_clamp (by omega)]
                refine xiinc (v := nI (kq + 1)) hk dL_taught_70 rfl (by decide) (nI_inc kq) ?_
                refine xgoto hk 23 dL_taught_73 (by decide) ?_
                refine ihk (kq + 1) _ (by omega) (by omega) (fun i hi j => ⟨(setI_ne hi).trans (hx3 i hi j).1, (hx3 i hi j).2⟩) (fun i hi => ?_)
                show (if (LF ++ R).length = (LF ++ R).length ∧ i = kq / 4 then _ else x3.1 (LF ++ R).length i) = if i = kq / 4 then _ else _
                by_cases e : i = kq / 4
                · rw [if_pos ⟨rfl, e⟩, if_pos e, h53 _ (by omega)]
                  rw [e]; rfl
                · rw [if_neg (fun u => e u.2), if_neg e]; exact h53 i hi
        refine xiconst (v := 0) hk dL_taught_20 (by decide) ?_
        refine xistore hk dL_taught_21 (by decide) ?_
        exact xsub [(0, _), (1, _), (2, _), (3, _), (4, _)] rfl (inner 21 0 x2 (by omega) (by omega) (fun _ _ _ => ⟨rfl, rfl⟩) (fun _ _ => rfl))
  refine xsub [(0, _), (1, _), (2, _), (3, _)] rfl ?_
  exact xwiden (by omega) (by omega) (outer 96 0 0 xs rfl (by omega) (by omega) hx0 hx1 hx2)
