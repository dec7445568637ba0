theorem kL_37 : Cond.methodLink RL 37 yJ4_append_15ec4 ∈ GW := gw_mem 1163 (by decide +kernel) (by decide +kernel)
theorem kL_41 : Cond.methodLink RL 41 yJ4_append_bf812 ∈ GW := gw_mem 1269 (by decide +kernel) (by decide +kernel)
theorem kL_48 : Cond.methodLink RL 48 yJ4_toString_0e30d ∈ GW := gw_mem 1321 (by decide +kernel) (by decide +kernel)
theorem kL_34 : Cond.methodLink RL 34 yJ4_init_da8c8 ∈ GW := gw_mem 1300 (by decide +kernel) (by decide +kernel)
/-! Texts that the law makes: a builder at the end of a layout -/
def bdr (base : List Kd) (cap : Nat) (l : List Kd) : List Kd := base ++ (.inl (11, [base.length + 4, 0, 0, 0]) :: .inr (2, cap) :: l)
theorem bdr_len (base : List Kd) (cap : Nat) (l : List Kd) : (bdr base cap l).length = base.length + (l.length + 2) := by simp [bdr]
theorem bdr_at {base l : List Kd} {cap i : Nat} {kd : Kd} (h : base[i]? = some kd) : (bdr base cap l)[i]? = some kd := app_o h
theorem bdr_q (base l : List Kd) (cap : Nat) : (bdr base cap l)[base.length]? = some (.inl (11, [base.length + 4, 0, 0, 0])) := by
  rw [bdr, List.getElem?_append_right (Nat.le_refl _), Nat.sub_self]; rfl
theorem bdr_v (base l : List Kd) (cap : Nat) : (bdr base cap l)[base.length + 1]? = some (.inr (2, cap)) := by
  rw [bdr, List.getElem?_append_right (by omega), Nat.add_sub_cancel_left]; rfl
theorem bdr_set (base l : List Kd) (cap c : Nat) : (bdr base cap l).set (base.length + 1) (.inr (2, c)) = bdr base c l := by
  rw [bdr, List.set_append_right _ _ (by omega), Nat.add_sub_cancel_left]; rfl
theorem bdr_app (base l m : List Kd) (cap : Nat) : bdr base cap l ++ m = bdr base cap (l ++ m) := by simp [bdr]
/-- cells behind a builder that name cells there are, but not its bytes -/
def okl (base l : List Kd) : Prop := ∀ o : Nat × List Nat, .inl o ∈ l → ∀ t ∈ o.2, 3 ≤ t → t - 3 < base.length + (l.length + 2) ∧ t ≠ base.length + 4
theorem okl_nil (base : List Kd) : okl base [] := fun o h => absurd h List.not_mem_nil
theorem bdr_split {base l : List Kd} {cap i : Nat} {o : Nat × List Nat} (h : (bdr base cap l)[i]? = some (.inl o)) : base[i]? = some (.inl o) ∨ (i = base.length ∧ o = (11, [base.length + 4, 0, 0, 0])) ∨ .inl o ∈ l := by
  by_cases hi : i < base.length
  · rw [bdr, List.getElem?_append_left hi] at h
    exact Or.inl h
  · rw [bdr, List.getElem?_append_right (by omega)] at h
    obtain ⟨d, hd⟩ : ∃ d, i - base.length = d := ⟨_, rfl⟩
    rw [hd] at h
    match d, h with
    | 0, h => exact Or.inr (Or.inl ⟨by omega, (Sum.inl.inj (Option.some.inj h)).symm⟩)
    | 1, h => cases h
    | d + 2, h => exact Or.inr (Or.inr (List.mem_of_getElem? (i := d) h))
theorem bdr_cl {base l : List Kd} (hC : Cl base) (hl : okl base l) (cap : Nat) : Cl (bdr base cap l) := by
  intro i o hi t ht h3
  rw [bdr_len]
  rcases bdr_split hi with h | ⟨-, rfl⟩ | h
  · have := hC i o h t ht h3; omega
  · simp at ht; omega
  · exact (hl o h t ht h3).1
theorem bdr_own {base l : List Kd} (hC : Cl base) (hl : okl base l) (cap : Nat) : Own (bdr base cap l) base.length (base.length + 1) := by
  intro i o hi hne hm
  rcases bdr_split hi with h | ⟨h, -⟩ | h
  · have := hC i o h _ hm (by omega); omega
  · exact hne h
  · exact (hl o h _ hm (by omega)).2 rfl
/-- the builder behind base: its text is bs; base as it was -/
def Bu (base l : List Kd) (a0 : Nat → Nat) (x0 : XS) (a : Nat → Nat) (x : XS) (cap : Nat) (bs : List Int32) : Prop := Keep base a0 a x0 x (fun _ => False) ∧ SB (bdr base cap l) x base.length (base.length + 1) cap bs
theorem Keep.tr0 {lay : List Kd} {a b c : Nat → Nat} {x y z : XS} (h1 : Keep lay a b x y (fun _ => False)) (h2 : Keep lay b c y z (fun _ => False)) : Keep lay a c x z (fun _ => False) := ⟨fun j hj => (h2.1 j hj).trans (h1.1 j hj), fun i hi _ j => ⟨((h2.2 i hi id j).1).trans (h1.2 i hi id j).1, ((h2.2 i hi id j).2).trans (h1.2 i hi id j).2⟩⟩
theorem Keep.less {lay l : List Kd} {a b : Nat → Nat} {x y : XS} (h : Keep (lay ++ l) a b x y (fun _ => False)) : Keep lay a b x y (fun _ => False) := ⟨fun j hj => h.1 j (by rw [List.length_append]; omega), fun i hi _ j => h.2 i (by rw [List.length_append]; omega) id j⟩
theorem okR_true (lay : List Kd) : okR lay (fun _ => true) = true := by
  simp only [okR, Bool.and_eq_true, List.all_eq_true]
  refine ⟨fun _ _ => trivial, fun kd _ => ?_⟩
  match kd with
  | .inl o => simp
  | .inr z => rfl
def cutA (n : Nat) (a : Nat → Nat) : Nat → Nat := fun j => if j < n then a j else a (j + 2)
def cutX (n : Nat) (x : XS) : XS := (fun i j => if i < n then x.1 i j else x.1 (i + 2) j, fun i j => if i < n then x.2 i j else x.2 (i + 2) j)
theorem cut_keep (base : List Kd) (a : Nat → Nat) (x : XS) : Keep base a (cutA base.length a) x (cutX base.length x) (fun _ => False) := ⟨fun j hj => by simp [cutA, hj], fun i hi _ j => by simp [cutX, hi]⟩
/-- two cells before a text at the end are let go -/
theorem xcut2 {k : Kx} {pc cells slots : Nat} {base : List Kd} {a : Nat → Nat} {x : XS} {L : List (Nat × Value)} {stk : List Value} {A B : Kd} {n : Nat} (hC : Cl base) (kk : Wx k cells slots (base ++ [.inl (10, [base.length + 4, 0, 0, 0]), .inr (2, n)]) (cutA base.length a) (cutX base.length x) pc L stk) : Wx k cells slots (base ++ [A, B, .inl (10, [base.length + 6, 0, 0, 0]), .inr (2, n)]) a x pc L stk := by
  refine xre (fun j => if j < base.length then j else j + 2) (fun T i kd hi => ?_) (fun i j hi hj h => ?_) kk
  · by_cases h1 : i < base.length
    · rw [List.getElem?_append_left h1] at hi
      refine ⟨by simp [cutA, h1], kd, by simp only [if_pos h1]; exact app_o hi, ?_⟩
      simp only [if_pos h1]
      rw [cell_a (a := a) (a' := cutA base.length a) (fun o t ho ht h3 => by
        subst ho
        have := hC i o hi t ht h3
        simp [cutA, this])]
      exact cell_other (fun j => by simp [cutX, h1]) (fun j => by simp [cutX, h1]) kd
    · have hl := at_lt hi
      rw [List.length_append] at hl
      have hl2 : i = base.length ∨ i = base.length + 1 := by simp at hl; omega
      refine ⟨by simp [cutA, h1], ?_⟩
      simp only [if_neg h1]
      rcases hl2 with rfl | rfl
      · rw [List.getElem?_append_right (Nat.le_refl _), Nat.sub_self] at hi
        cases hi
        refine ⟨.inl (10, [base.length + 6, 0, 0, 0]), by rw [List.getElem?_append_right (by omega), Nat.add_sub_cancel_left]; rfl, ?_⟩
        have e1 : flist (cutA base.length a) (cutX base.length x) base.length [base.length + 4, 0, 0, 0] = flist a x (base.length + 2) [base.length + 6, 0, 0, 0] := by
          simp [flist, List.range_succ, fval, cutA, cutX, show ¬ (base.length + 1 < base.length) by omega]
        show cellOf T _ _ _ (.inl (10, _)) = cellOf T _ _ _ (.inl (10, _))
        rw [cell_o (by decide), cell_o (by decide), e1]
      · rw [List.getElem?_append_right (by omega), Nat.add_sub_cancel_left] at hi
        cases hi
        refine ⟨.inr (2, n), by rw [List.getElem?_append_right (by omega), show base.length + 1 + 2 - base.length = 3 by omega]; rfl, ?_⟩
        simp [cellOf, cutX, show ¬ (base.length + 1 < base.length) by omega]
  · by_cases h1 : i < base.length <;> by_cases h2 : j < base.length <;> simp [h1, h2] at h <;> omega
section WTX
variable {k : Kx} {cc : ByteArray} {nL rk mc ms pc cells slots : Nat} {nm : String} {ret : Option FieldType} {base l : List Kd} {a a0 : Nat → Nat} {x x0 : XS} {L : List (Nat × Value)} {stk : List Value} {cap T : Nat} {bs ts : List Int32}
/-- new StringBuilder() -/
theorem xnewSB (hk : Fok k cc nL RL ret nm rk mc ms) (d0 : decode cc pc = .ok (.new 32, 3)) (d1 : decode cc (pc + 3) = .ok (.dup, 1)) (d2 : decode cc (pc + 4) = .ok (.invokespecial 34, 3)) (hC : Cl base) (hrk : 3 < rk) (hc : cells + 2 ≤ mc ∧ slots + 20 ≤ ms) (hst : (stk.map fun v => v.category).sum ≤ 6)
    (kk : ∀ (a' : Nat → Nat) (x' : XS), Bu base [] a x a' x' 16 [] → Wx k (cells + 2) (slots + 20) (bdr base 16 []) a' x' (pc + 7) L (.ref (a' base.length) :: stk)) : Wx k cells slots base a x pc L stk := by
  refine xnew (ci := 11) (ft := [2, 0, 0, 0]) hk tyJ4 d0 w_sbI (gw_mem 2 (by decide +kernel) (by decide +kernel)) tyJ4_ok rfl rfl kdJ4 (gw_mem 1298 (by decide +kernel) (by decide +kernel)) (by omega) (by omega) (okR_new hC) (fun a1 ha1 => ?_)
  refine xdup hk d1 rfl ?_
  have hC1 : Cl (base ++ [(.inl (11, [2, 0, 0, 0]) : Kd)]) := hC.app (fun o e t ht h3 => by
    have e2 : o = (11, [2, 0, 0, 0]) := (Sum.inl.inj e).symm
    rw [e2] at ht
    simp at ht
    omega)
  refine xcallI hk (c_J4_init_da8c8 hC1 app_n) x4_init x4_inst rfl kL_34 d2 rfl rfl hrk ⟨by omega, by omega⟩ (by simp only [List.map_cons, List.sum_cons, show (Value.ref (a1 base.length)).category = 1 from rfl]; omega) ?_
  rintro _ _ a2 x2 ⟨rfl, rfl, hK, rfl⟩
  rw [← hK base.length (by rw [List.length_append, List.length_singleton]; omega)]
  refine xlay (lay' := bdr base 16 []) (by
    rw [List.length_append, List.length_singleton, List.append_assoc, List.set_append_right _ _ (Nat.le_refl _), Nat.sub_self]; rfl) ?_
  refine kk a2 _ ⟨⟨fun j hj => ?_, fun i hi _ j => ?_⟩, bdr_q _ _ _, bdr_v _ _ _, ?_, ?_, Nat.zero_le _, by decide, fun j _ => ?_, fun j hj => absurd hj (Nat.not_lt_zero _)⟩
  · rw [hK j (by rw [List.length_append]; omega)]; exact ha1 j (Nat.ne_of_lt hj)
  · have h1 : i ≠ base.length := Nat.ne_of_lt hi
    have h2 : i ≠ base.length + 1 := by omega
    exact ⟨by simp [setI, clr, h1, h2], by simp [setI, clr, h1, h2]⟩
  · simp [setI]
  · simp [setI, clr]; rfl
  · simp [setI, clr]; rfl
theorem xappS (hk : Fok k cc nL RL ret nm rk mc ms) {r : Nat} (d : decode cc pc = .ok (.invokevirtual 37, 3)) (hC : Cl base) (hl : okl base l) (hB : Bu base l a0 x0 a x cap bs) (hS : StrR (sa k) (bdr base cap l) a x r ts) (hA : Asc ts) (hT : bs.length + ts.length ≤ T) (hT2 : T < 2 ^ 18) (hrk : 7 < rk) (hc : cells + 1 ≤ mc ∧ slots + 2 * T ≤ ms) (hst : (stk.map fun v => v.category).sum ≤ 8)
    (kk : ∀ (cap' : Nat) (a' : Nat → Nat) (x' : XS), Bu base l a0 x0 a' x' cap' (bs ++ ts) → Wx k (cells + 1) (slots + 2 * T) (bdr base cap' l) a' x' (pc + 3) L (.ref (a' base.length) :: stk)) : Wx k cells slots (bdr base cap l) a x pc L (.ref r :: .ref (a base.length) :: stk) := by
  refine xcallVZ hk (c_J4_append_15ec4 (bdr_cl hC hl cap) (bdr_own hC hl cap) hB.2 hS hA hT hT2) bJ4_append_15ec4 kL_37 d rfl ⟨_, _, _, _, hB.2.1, rfl⟩ rfl hrk hc hst ?_
  rintro _ _ a' x' ⟨rfl, cap', rfl, hK, hB1⟩
  rw [bdr_set] at hB1 ⊢
  have hlb := bdr_len base cap l
  refine kk cap' a' x' ⟨hB.1.tr0 ⟨fun j hj => hK.1 j (by omega) (by omega), fun i hi _ j => hK.2 i (by omega) (by omega) (by omega) j⟩, hB1⟩
theorem xappI (hk : Fok k cc nL RL ret nm rk mc ms) {n : Nat} (d : decode cc pc = .ok (.invokevirtual 41, 3)) (hC : Cl base) (hl : okl base l) (hB : Bu base l a0 x0 a x cap bs) (hn : n < 100) (hT : bs.length + (numB n).length ≤ T) (hT2 : T < 2 ^ 18) (hrk : 7 < rk) (hc : cells + 1 ≤ mc ∧ slots + 2 * T ≤ ms) (hst : (stk.map fun v => v.category).sum ≤ 8)
    (kk : ∀ (cap' : Nat) (a' : Nat → Nat) (x' : XS), Bu base l a0 x0 a' x' cap' (bs ++ numB n) → Wx k (cells + 1) (slots + 2 * T) (bdr base cap' l) a' x' (pc + 3) L (.ref (a' base.length) :: stk)) : Wx k cells slots (bdr base cap l) a x pc L (.int (nI n) :: .ref (a base.length) :: stk) := by
  refine xcallVZ hk (c_J4_append_bf812 (bdr_cl hC hl cap) (bdr_own hC hl cap) hB.2 hn hT hT2) bJ4_append_bf812 kL_41 d rfl ⟨_, _, _, _, hB.2.1, rfl⟩ rfl hrk hc hst ?_
  rintro _ _ a' x' ⟨rfl, cap', rfl, hK, hB1⟩
  rw [bdr_set] at hB1 ⊢
  have hlb := bdr_len base cap l
  refine kk cap' a' x' ⟨hB.1.tr0 ⟨fun j hj => hK.1 j (by omega) (by omega), fun i hi _ j => hK.2 i (by omega) (by omega) (by omega) j⟩, hB1⟩
/-- ldc of a text, then append -/
theorem xappL (hk : Fok k cc nL RL ret nm rk mc ms) {i idx : Nat} (d0 : decode cc pc = .ok (.ldc idx, 2)) (d : decode cc (pc + 2) = .ok (.invokevirtual 37, 3)) (hi : i < 30) (hti : (txt i).1 = RL ∧ (txt i).2.1 = idx) (hC : Cl base) (hl : okl base l) (hB : Bu base l a0 x0 a x cap bs) (hT : bs.length + (txB i).length ≤ T) (hT2 : T < 2 ^ 18) (hrk : 7 < rk) (hc : cells + 1 ≤ mc ∧ slots + 2 * T ≤ ms) (hst : (stk.map fun v => v.category).sum ≤ 8)
    (kk : ∀ (cap' : Nat) (a' : Nat → Nat) (x' : XS), Bu base l a0 x0 a' x' cap' (bs ++ txB i) → Wx k (cells + 1) (slots + 2 * T) (bdr base cap' l) a' x' (pc + 5) L (.ref (a' base.length) :: stk)) : Wx k cells slots (bdr base cap l) a x pc L (.ref (a base.length) :: stk) := by
  refine xldcT (i := i) hk d0 hti (by omega) ?_
  exact xappS hk d hC hl hB (Or.inl ⟨i, hi, rfl, rfl⟩) (asc_tx hi) hT hT2 hrk hc hst kk
/-- a fresh text at the end, appended and let go -/
theorem xappF (hk : Fok k cc nL RL ret nm rk mc ms) {a1 : Nat → Nat} {x1 : XS} (d : decode cc pc = .ok (.invokevirtual 37, 3)) (hC : Cl base) (hB : Bu base [] a0 x0 a x cap bs) {v1 : Option Value} {lay1 : List Kd} (hE : TsE (bdr base cap []) a x ts v1 lay1 a1 x1) (hA : Asc ts) (hT : bs.length + ts.length ≤ T) (hT2 : T < 2 ^ 18) (hrk : 7 < rk) (hc : cells + 1 ≤ mc ∧ slots + 2 * T ≤ ms) (hst : (stk.map fun v => v.category).sum ≤ 8)
    (kk : ∀ (cap' : Nat) (a' : Nat → Nat) (x' : XS), Bu base [] a0 x0 a' x' cap' (bs ++ ts) → Wx k (cells + 1) (slots + 2 * T) (bdr base cap' []) a' x' (pc + 3) L (.ref (a' base.length) :: stk)) : Wx k cells slots lay1 a1 x1 pc L (v1.toList ++ .ref (a base.length) :: stk) := by
  obtain ⟨rfl, rfl, hK, h0, hb⟩ := hE
  have hlen : (bdr base cap []).length = base.length + 2 := bdr_len _ _ _
  rw [hlen] at h0 hb ⊢
  rw [← hK.1 base.length (by omega), bdr_app]
  have hl : okl base ([] ++ [.inl (10, [base.length + 2 + 4, 0, 0, 0]), .inr (2, ts.length)]) := fun o ho t ht h3 => by
    simp at ho
    rw [ho] at ht
    simp at ht
    rcases ht with rfl | rfl
    · simp
    · omega
  have hKb : Keep base a a1 x x1 (fun _ => False) := ⟨fun j hj => hK.1 j (by omega), fun i hi _ j => hK.2 i (by omega) id j⟩
  have hB1 : Bu base ([] ++ [.inl (10, [base.length + 2 + 4, 0, 0, 0]), .inr (2, ts.length)]) a0 x0 a1 x1 cap bs := ⟨hB.1.tr0 hKb, by
    rw [← bdr_app]; exact hB.2.more (fun i hi j => hK.2 i hi id j)⟩
  have hD : StrD (bdr base cap ([] ++ [.inl (10, [base.length + 2 + 4, 0, 0, 0]), .inr (2, ts.length)])) x1 (base.length + 2) (base.length + 3) ts := by
    rw [← bdr_app]
    refine ⟨?_, ?_, h0, hb⟩
    · rw [List.getElem?_append_right (by omega), hlen, Nat.sub_self]; rfl
    · rw [List.getElem?_append_right (by omega), hlen, show base.length + 3 - (base.length + 2) = 1 by omega]; rfl
  refine xappS hk d hC hl hB1 (Or.inr ⟨_, _, hD, rfl⟩) hA hT hT2 hrk hc hst (fun cap' a' x' hB2 => ?_)
  rw [← bdr_app]
  refine xdrop (fun _ => true) (okR_true _) (fun _ _ => rfl) (kk cap' a' x' ⟨hB2.1, ?_⟩)
  have h2 := hB2.2
  exact ⟨bdr_q _ _ _, bdr_v _ _ _, h2.2.2⟩
/-- toString(): the builder is let go -/
theorem xtoS (hk : Fok k cc nL RL ret nm rk mc ms) (d : decode cc pc = .ok (.invokevirtual 48, 3)) (hC : Cl base) (hB : Bu base [] a0 x0 a x cap bs) (hT : bs.length ≤ T) (hrk : 7 < rk) (hc : cells + 2 ≤ mc ∧ slots + (T + 4) ≤ ms) (hst : (stk.map fun v => v.category).sum ≤ 8)
    (kk : ∀ (a' : Nat → Nat) (x' : XS), TsE base a0 x0 bs (some (.ref (a' base.length))) (base ++ [.inl (10, [base.length + 4, 0, 0, 0]), .inr (2, bs.length)]) a' x' → Wx k (cells + 2) (slots + (T + 4)) (base ++ [.inl (10, [base.length + 4, 0, 0, 0]), .inr (2, bs.length)]) a' x' (pc + 3) L (.ref (a' base.length) :: stk)) : Wx k cells slots (bdr base cap []) a x pc L (.ref (a base.length) :: stk) := by
  refine xcallVZ hk (c_J4_toString_0e30d (bdr_cl hC (okl_nil _) cap) hB.2 hT) bJ4_toString_0e30d kL_48 d rfl ⟨_, _, _, _, hB.2.1, rfl⟩ rfl hrk hc hst ?_
  rintro _ _ a' x' ⟨rfl, rfl, hK, h0, hb⟩
  have hlen : (bdr base cap []).length = base.length + 2 := bdr_len _ _ _
  rw [hlen] at h0 hb ⊢
  refine xlay (lay' := base ++ [.inl (11, [base.length + 4, 0, 0, 0]), .inr (2, cap), .inl (10, [base.length + 6, 0, 0, 0]), .inr (2, bs.length)]) (by simp [bdr]) ?_
  refine xcut2 hC ?_
  have e : a' (base.length + 2) = cutA base.length a' base.length := by simp [cutA]
  show Wx _ _ _ _ _ _ _ _ (.ref (a' (base.length + 2)) :: stk)
  rw [e]
  have hKb : Keep base a a' x x' (fun _ => False) := ⟨fun j hj => hK.1 j (by omega), fun i hi _ j => hK.2 i (by omega) id j⟩
  refine kk _ _ ⟨rfl, rfl, (hB.1.tr0 hKb).tr0 (cut_keep base a' x'), ?_, fun j hj => ?_⟩
  · simp [cutX]; exact h0
  · have := hb j hj
    show (if base.length + 1 < base.length then _ else x'.1 (base.length + 1 + 2) j) = _
    rw [if_neg (by omega)]; exact this
end WTX
