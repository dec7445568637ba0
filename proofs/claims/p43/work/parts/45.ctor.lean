
theorem xlay {k : Kx} {pc cells slots : Nat} {lay lay' : List Kd} {a : Nat → Nat} {x : XS} {L : List (Nat × Value)} {stk : List Value} (h : lay = lay') (kk : Wx k cells slots lay' a x pc L stk) : Wx k cells slots lay a x pc L stk := by subst h; exact kk
theorem xcallIN {k : Kx} {cc : ByteArray} {nL rk mc ms pc cells slots : Nat} {own nm : String} {ret : Option FieldType} {lay : List Kd} {a : Nat → Nat} {x : XS} {L : List (Nat × Value)} {stk st0 : List Value} {post : Option Value → List Kd → (Nat → Nat) → XS → Prop} (hk : Fok k cc nL own ret nm rk mc ms) {host : String} {y : MethodName} {cy : ByteArray} {nLy rky mcy msy n idx b : Nat} {As : List Value} (M : Mz (kg k) y cy nLy none rky mcy msy lay a x (.ref b :: As) post) (cb : CBx y cy nLy none n) (hin : Cond.instanceMethod y ∈ GW) (hy1 : y.name = "<init>") (hw : Cond.methodLinkNest own idx y host ∈ NW) (d : decode cc pc = .ok (.invokespecial idx, 3)) (hs : st0 = As.reverse ++ .ref b :: stk) (hn : As.length = n) (hrk : rky < rk) (hc : cells + mcy ≤ mc ∧ slots + msy ≤ ms) (hst : (stk.map fun v => v.category).sum ≤ 8)
    (kk : ∀ (v : Option Value) (lay' : List Kd) (a' : Nat → Nat) (x' : XS), post v lay' a' x' → Wx k (cells + mcy) (slots + msy) lay' a' x' (pc + 3) L (v.toList ++ stk)) : Wx k cells slots lay a x pc L st0 := by
  rcases k with ⟨p, e, s, m, args, below, meth, c, Q, A, R, g⟩
  obtain ⟨hx, hb, hml, hown, hts, hr, hlk, hK, hA, hA0, hR, hSg, hnm, hb0⟩ := hk
  obtain ⟨hcode, hini, hd, h45⟩ := cb
  subst hs
  intro H locs ls hP hD hS hl
  have hRR := room_in (mcy := mcy) (msy := msy) hR hrk h45
  exact xgoZ hA (va_runIN (ws := Cond.code y cy nLy none :: GW) (rm := roomX rky mcy msy) (Ts := GW) (own := own) (cc := cc) (nL := nL) (As := As) (rest := stk) (n := n) ⟨hx, hb, hml, hown, hts⟩ (M H.size) ⟨va_cnB n hts (goodIn_self hcode) rfl rfl rfl (hSg.1 _ hw) (hts _ hini) hd hRR, hy1, hts _ hin⟩
    ⟨preX_blind _ _ _ _ _ _, preX_at hK hb0 hA0 hSg hP hD hS⟩ rfl hn (hl.1.trans hml) rfl (lv_room hst) d (by subst hR; exact hc)) hD hS hl kk
theorem kdX0 : ∀ j, j < 16 → ∀ (a : Nat → Nat) (x : XS) (q : Nat), defaultValue (tyX0 j) = fval a (clr x q) q j (([0, 0, 2, 2, 2, 2, 2, 0, 2, 2, 2, 2, 0, 2, 2, 2] : List Nat).getD j 0) := fun j hj a x q => match j, hj with
  | 0, _ => by show Value.int 0 = Value.int (if q = q then 0 else _); rw [if_pos rfl]
  | 1, _ => by show Value.int 0 = Value.int (if q = q then 0 else _); rw [if_pos rfl]
  | 2, _ => by rfl
  | 3, _ => by rfl
  | 4, _ => by rfl
  | 5, _ => by rfl
  | 6, _ => by rfl
  | 7, _ => by show Value.int 0 = Value.int (if q = q then 0 else _); rw [if_pos rfl]
  | 8, _ => by rfl
  | 9, _ => by rfl
  | 10, _ => by rfl
  | 11, _ => by rfl
  | 12, _ => by show Value.int 0 = Value.int (if q = q then 0 else _); rw [if_pos rfl]
  | 13, _ => by rfl
  | 14, _ => by rfl
  | 15, _ => by rfl
  | j + 16, h => absurd h (by omega)
theorem kdX1 : ∀ j, j < 3 → ∀ (a : Nat → Nat) (x : XS) (q : Nat), defaultValue (tyX1 j) = fval a (clr x q) q j (([0, 0, 0] : List Nat).getD j 0) := fun j hj a x q => match j, hj with
  | 0, _ => by show Value.int 0 = Value.int (if q = q then 0 else _); rw [if_pos rfl]
  | 1, _ => by show Value.int 0 = Value.int (if q = q then 0 else _); rw [if_pos rfl]
  | 2, _ => by show Value.int 0 = Value.int (if q = q then 0 else _); rw [if_pos rfl]
  | j + 3, h => absurd h (by omega)
theorem kdX2 : ∀ j, j < 5 → ∀ (a : Nat → Nat) (x : XS) (q : Nat), defaultValue (tyX2 j) = fval a (clr x q) q j (([2, 2, 2, 2, 0] : List Nat).getD j 0) := fun j hj a x q => match j, hj with
  | 0, _ => by rfl
  | 1, _ => by rfl
  | 2, _ => by rfl
  | 3, _ => by rfl
  | 4, _ => by show Value.int 0 = Value.int (if q = q then 0 else _); rw [if_pos rfl]
  | j + 5, h => absurd h (by omega)
theorem kdX3 : ∀ j, j < 7 → ∀ (a : Nat → Nat) (x : XS) (q : Nat), defaultValue (tyX3 j) = fval a (clr x q) q j (([2, 2, 2, 2, 0, 0, 0] : List Nat).getD j 0) := fun j hj a x q => match j, hj with
  | 0, _ => by rfl
  | 1, _ => by rfl
  | 2, _ => by rfl
  | 3, _ => by rfl
  | 4, _ => by show Value.int 0 = Value.int (if q = q then 0 else _); rw [if_pos rfl]
  | 5, _ => by show Value.int 0 = Value.int (if q = q then 0 else _); rw [if_pos rfl]
  | 6, _ => by show Value.int 0 = Value.int (if q = q then 0 else _); rw [if_pos rfl]
  | j + 7, h => absurd h (by omega)
theorem kdX4 : ∀ j, j < 7 → ∀ (a : Nat → Nat) (x : XS) (q : Nat), defaultValue (tyX4 j) = fval a (clr x q) q j (([2, 2, 2, 2, 0, 0, 0] : List Nat).getD j 0) := fun j hj a x q => match j, hj with
  | 0, _ => by rfl
  | 1, _ => by rfl
  | 2, _ => by rfl
  | 3, _ => by rfl
  | 4, _ => by show Value.int 0 = Value.int (if q = q then 0 else _); rw [if_pos rfl]
  | 5, _ => by show Value.int 0 = Value.int (if q = q then 0 else _); rw [if_pos rfl]
  | 6, _ => by show Value.int 0 = Value.int (if q = q then 0 else _); rw [if_pos rfl]
  | j + 7, h => absurd h (by omega)
theorem kdX5 : ∀ j, j < 2 → ∀ (a : Nat → Nat) (x : XS) (q : Nat), defaultValue (tyX5 j) = fval a (clr x q) q j (([2, 0] : List Nat).getD j 0) := fun j hj a x q => match j, hj with
  | 0, _ => by rfl
  | 1, _ => by show Value.int 0 = Value.int (if q = q then 0 else _); rw [if_pos rfl]
  | j + 2, h => absurd h (by omega)
theorem kdX6 : ∀ j, j < 7 → ∀ (a : Nat → Nat) (x : XS) (q : Nat), defaultValue (tyX6 j) = fval a (clr x q) q j (([2, 2, 2, 2, 0, 0, 1] : List Nat).getD j 0) := fun j hj a x q => match j, hj with
  | 0, _ => by rfl
  | 1, _ => by rfl
  | 2, _ => by rfl
  | 3, _ => by rfl
  | 4, _ => by show Value.int 0 = Value.int (if q = q then 0 else _); rw [if_pos rfl]
  | 5, _ => by show Value.int 0 = Value.int (if q = q then 0 else _); rw [if_pos rfl]
  | 6, _ => by show Value.long 0 = Value.long (if q = q then 0 else _); rw [if_pos rfl]
  | j + 7, h => absurd h (by omega)
theorem kdX7 : ∀ j, j < 6 → ∀ (a : Nat → Nat) (x : XS) (q : Nat), defaultValue (tyX7 j) = fval a (clr x q) q j (([2, 2, 2, 0, 0, 0] : List Nat).getD j 0) := fun j hj a x q => match j, hj with
  | 0, _ => by rfl
  | 1, _ => by rfl
  | 2, _ => by rfl
  | 3, _ => by show Value.int 0 = Value.int (if q = q then 0 else _); rw [if_pos rfl]
  | 4, _ => by show Value.int 0 = Value.int (if q = q then 0 else _); rw [if_pos rfl]
  | 5, _ => by show Value.int 0 = Value.int (if q = q then 0 else _); rw [if_pos rfl]
  | j + 6, h => absurd h (by omega)
theorem kdX8 : ∀ j, j < 11 → ∀ (a : Nat → Nat) (x : XS) (q : Nat), defaultValue (tyX8 j) = fval a (clr x q) q j (([2, 2, 2, 2, 2, 2, 2, 2, 2, 2, 0] : List Nat).getD j 0) := fun j hj a x q => match j, hj with
  | 0, _ => by rfl
  | 1, _ => by rfl
  | 2, _ => by rfl
  | 3, _ => by rfl
  | 4, _ => by rfl
  | 5, _ => by rfl
  | 6, _ => by rfl
  | 7, _ => by rfl
  | 8, _ => by rfl
  | 9, _ => by rfl
  | 10, _ => by show Value.int 0 = Value.int (if q = q then 0 else _); rw [if_pos rfl]
  | j + 11, h => absurd h (by omega)
theorem kdX9 : ∀ j, j < 5 → ∀ (a : Nat → Nat) (x : XS) (q : Nat), defaultValue (tyX9 j) = fval a (clr x q) q j (([0, 2, 2, 0, 0] : List Nat).getD j 0) := fun j hj a x q => match j, hj with
  | 0, _ => by show Value.int 0 = Value.int (if q = q then 0 else _); rw [if_pos rfl]
  | 1, _ => by rfl
  | 2, _ => by rfl
  | 3, _ => by show Value.int 0 = Value.int (if q = q then 0 else _); rw [if_pos rfl]
  | 4, _ => by show Value.int 0 = Value.int (if q = q then 0 else _); rw [if_pos rfl]
  | j + 5, h => absurd h (by omega)
theorem kdJ0 : ∀ j, j < 4 → ∀ (a : Nat → Nat) (x : XS) (q : Nat), defaultValue (tyJ0 j) = fval a (clr x q) q j (([2, 0, 0, 0] : List Nat).getD j 0) := fun j hj a x q => match j, hj with
  | 0, _ => by rfl
  | 1, _ => by show Value.int 0 = Value.int (if q = q then 0 else _); rw [if_pos rfl]
  | 2, _ => by show Value.int 0 = Value.int (if q = q then 0 else _); rw [if_pos rfl]
  | 3, _ => by show Value.int 0 = Value.int (if q = q then 0 else _); rw [if_pos rfl]
  | j + 4, h => absurd h (by omega)
theorem kdJ4 : ∀ j, j < 4 → ∀ (a : Nat → Nat) (x : XS) (q : Nat), defaultValue (tyJ4 j) = fval a (clr x q) q j (([2, 0, 0, 0] : List Nat).getD j 0) := fun j hj a x q => match j, hj with
  | 0, _ => by rfl
  | 1, _ => by show Value.int 0 = Value.int (if q = q then 0 else _); rw [if_pos rfl]
  | 2, _ => by show Value.int 0 = Value.int (if q = q then 0 else _); rw [if_pos rfl]
  | 3, _ => by show Value.int 0 = Value.int (if q = q then 0 else _); rw [if_pos rfl]
  | j + 4, h => absurd h (by omega)
