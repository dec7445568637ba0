/-! The walk: all that stays in one context; the goal names only room, world, place, locals and stack -/
abbrev Kx : Type := Program × Env × State × MethodId × Array Value × List Frame × Method × Code × (State → Prop) × (Nat → Prop) × Room × Gx
def tysT (T : Nat → ClassId) : List (ClassId × FieldType) := [(T 0, .int), (T 1, .long), (T 2, .byte), (T 3, .array .int)]
def Wx (k : Kx) (cells slots : Nat) (lay : List Kd) (a : Nat → Nat) (x : XS) (pc : Nat) (L : List (Nat × Value)) (stk : List Value) : Prop := match k with
  | (p, e, s, m, args, below, meth, c, Q, A, R, g) => ∀ (H : Heap) (locs : List Loc) (ls : Array Slot), va_P g.2.1 vwCl (wl g.2.2.1 lay a x) H → va_D A (wl g.2.2.1 lay a x) → va_S A s.heap H locs → lv_has ls c.maxLocals L → W p g.1 e R s m args below meth c H locs cells slots Q (F0 m pc ls stk)
/-- what holds of the context all along a walk of the method with the code cc, of the class own -/
def Fok (k : Kx) (cc : ByteArray) (nL : Nat) (own : String) (ret : Option FieldType) (nm : String) (rk mc ms : Nat) : Prop := match k with
  | (p, e, s, m, args, below, meth, c, Q, A, R, g) => p.tables.exec = Jvm.exec ∧ c.code = cc ∧ c.maxLocals = nL ∧ s.vm.findClass own = some m.cls ∧ (∀ w ∈ GW, w.before args s = true) ∧ meth.sig.returnType = ret ∧ meth.locks = false ∧ va_K g.2.1 vwCl (tysT g.2.2.1) s ∧ (∀ q : Nat, s.heap.size ≤ q → A q) ∧ (∀ q : Nat, A q → g.2.2.2.1 ≤ q) ∧ R = { frames := rk, cells := mc, slots := ms, locals := 64 * rk } ∧ Sg g (fun q => g.2.2.2.1 ≤ q) s s.heap ∧ meth.name = nm ∧ g.2.2.2.1 ≤ s.heap.size
/-- a local by its number -/
def lk : List (Nat × Value) → Nat → Option Value
  | [], _ => none
  | (j, v) :: t, i => if j = i then some v else lk t i
theorem lk_mem : ∀ {L : List (Nat × Value)} {i : Nat} {v : Value}, lk L i = some v → (i, v) ∈ L
  | [], _, _, h => by simp [lk] at h
  | (j, w) :: t, i, v, h => by
    unfold lk at h
    split at h
    · rename_i hj; subst hj; cases h; exact List.mem_cons_self
    · exact List.mem_cons_of_mem _ (lk_mem h)
theorem lk_at {ls : Array Slot} {nL : Nat} {L : List (Nat × Value)} (h : lv_has ls nL L) {i : Nat} {v : Value} (hk : lk L i = some v) : ls[i]? = some (.val v) := h.2.2 (i, v) (lk_mem hk)
/-- a value of one slot, of two slots, put into the locals -/
def st1 : List (Nat × Value) → Nat → Value → List (Nat × Value)
  | [], i, v => [(i, v)]
  | (j, w) :: t, i, v => if j = i then (i, v) :: t.filter (fun q => !(q.1 == i) && !(q.1 + 1 == i && q.2.category == 2)) else if j + 1 = i ∧ w.category = 2 then st1 t i v else (j, w) :: st1 t i v
def st2 : List (Nat × Value) → Nat → Value → List (Nat × Value)
  | [], i, v => [(i, v)]
  | (j, w) :: t, i, v => if j = i then (i, v) :: t.filter (fun q => !(q.1 == i) && (!(q.1 == i + 1) && !(q.1 + 1 == i && q.2.category == 2))) else if j = i + 1 ∨ (j + 1 = i ∧ w.category = 2) then st2 t i v else (j, w) :: st2 t i v
theorem st1_mem (i : Nat) (v : Value) : ∀ (L : List (Nat × Value)), ∀ q ∈ st1 L i v, q ∈ (i, v) :: L.filter (fun q => !(q.1 == i) && !(q.1 + 1 == i && q.2.category == 2))
  | [], q, h => by simpa [st1] using h
  | (j, w) :: t, q, h => by
    unfold st1 at h
    split at h
    · rename_i hj; subst hj
      rcases List.mem_cons.mp h with h | h
      · rw [h]; exact List.mem_cons_self
      · refine List.mem_cons_of_mem _ ?_
        rw [List.filter_cons_of_neg (by simp)]; exact h
    · rename_i hj
      split at h
      · rename_i h2
        rw [List.filter_cons_of_neg (by simp [h2.1, h2.2])]
        exact st1_mem i v t q h
      · rename_i h2
        have hc : (!((j, w).1 == i) && !((j, w).1 + 1 == i && (j, w).2.category == 2)) = true := by
          simp only [Bool.and_eq_true, Bool.not_eq_true', beq_eq_false_iff_ne, Bool.and_eq_false_iff]
          refine ⟨hj, ?_⟩
          by_cases h3 : j + 1 = i
          · exact Or.inr (fun z => h2 ⟨h3, z⟩)
          · exact Or.inl h3
        rw [List.filter_cons, if_pos hc]
        rcases List.mem_cons.mp h with h | h
        · rw [h]; exact List.mem_cons_of_mem _ List.mem_cons_self
        · rcases List.mem_cons.mp (st1_mem i v t q h) with e | e
          · rw [e]; exact List.mem_cons_self
          · exact List.mem_cons_of_mem _ (List.mem_cons_of_mem _ e)
theorem st2_mem (i : Nat) (v : Value) : ∀ (L : List (Nat × Value)), ∀ q ∈ st2 L i v, q ∈ (i, v) :: L.filter (fun q => !(q.1 == i) && (!(q.1 == i + 1) && !(q.1 + 1 == i && q.2.category == 2)))
  | [], q, h => by simpa [st2] using h
  | (j, w) :: t, q, h => by
    unfold st2 at h
    split at h
    · rename_i hj; subst hj
      rcases List.mem_cons.mp h with h | h
      · rw [h]; exact List.mem_cons_self
      · refine List.mem_cons_of_mem _ ?_
        rw [List.filter_cons_of_neg (by simp)]; exact h
    · rename_i hj
      split at h
      · rename_i h2
        rw [List.filter_cons_of_neg (by rcases h2 with h2 | ⟨h2, h3⟩ <;> simp [*])]
        exact st2_mem i v t q h
      · rename_i h2
        have hc : (!((j, w).1 == i) && (!((j, w).1 == i + 1) && !((j, w).1 + 1 == i && (j, w).2.category == 2))) = true := by
          simp only [Bool.and_eq_true, Bool.not_eq_true', beq_eq_false_iff_ne, Bool.and_eq_false_iff]
          refine ⟨hj, fun z => h2 (Or.inl z), ?_⟩
          by_cases h3 : j + 1 = i
          · exact Or.inr (fun z => h2 (Or.inr ⟨h3, z⟩))
          · exact Or.inl h3
        rw [List.filter_cons, if_pos hc]
        rcases List.mem_cons.mp h with h | h
        · rw [h]; exact List.mem_cons_of_mem _ List.mem_cons_self
        · rcases List.mem_cons.mp (st2_mem i v t q h) with e | e
          · rw [e]; exact List.mem_cons_self
          · exact List.mem_cons_of_mem _ (List.mem_cons_of_mem _ e)
theorem has_mono {ls : Array Slot} {nL : Nat} {L L' : List (Nat × Value)} (h : lv_has ls nL L) (hs : ∀ q ∈ L', q ∈ L) : lv_has ls nL L' := ⟨h.1, h.2.1, fun q hq => h.2.2 q (hs q hq)⟩

section WX
variable {k : Kx} {cc : ByteArray} {nL rk mc ms pc cells slots : Nat} {own nm : String} {ret : Option FieldType} {lay : List Kd} {a : Nat → Nat} {x : XS} {L : List (Nat × Value)} {stk : List Value}
theorem xiconst (hk : Fok k cc nL own ret nm rk mc ms) {n : Int} {v : Int32} (d : decode cc pc = .ok (.iconst n, 1)) (hv : Int32.ofInt n = v) (kk : Wx k cells slots lay a x (pc + 1) L (.int v :: stk)) : Wx k cells slots lay a x pc L (stk) := by
  rcases k with ⟨p, e, s, m, args, below, meth, c, Q, A, R, g⟩
  obtain ⟨hx, hb, hml, hown, hts, hr, hlk, hK, hA, hA0, hR, hSg, hnm, hb0⟩ := hk
  intro H locs ls hP hD hS hl
  exact lv_iconst hx hb d hv (kk H locs ls hP hD hS hl)
theorem xbipush (hk : Fok k cc nL own ret nm rk mc ms) {n : Int} {v : Int32} (d : decode cc pc = .ok (.bipush n, 2)) (hv : (Int8.ofInt n).toInt32 = v) (kk : Wx k cells slots lay a x (pc + 2) L (.int v :: stk)) : Wx k cells slots lay a x pc L (stk) := by
  rcases k with ⟨p, e, s, m, args, below, meth, c, Q, A, R, g⟩
  obtain ⟨hx, hb, hml, hown, hts, hr, hlk, hK, hA, hA0, hR, hSg, hnm, hb0⟩ := hk
  intro H locs ls hP hD hS hl
  exact lv_bipush hx hb d hv (kk H locs ls hP hD hS hl)
theorem xsipush (hk : Fok k cc nL own ret nm rk mc ms) {n : Int} {v : Int32} (d : decode cc pc = .ok (.sipush n, 3)) (hv : (Int16.ofInt n).toInt32 = v) (kk : Wx k cells slots lay a x (pc + 3) L (.int v :: stk)) : Wx k cells slots lay a x pc L (stk) := by
  rcases k with ⟨p, e, s, m, args, below, meth, c, Q, A, R, g⟩
  obtain ⟨hx, hb, hml, hown, hts, hr, hlk, hK, hA, hA0, hR, hSg, hnm, hb0⟩ := hk
  intro H locs ls hP hD hS hl
  exact lv_sipush hx hb d hv (kk H locs ls hP hD hS hl)
theorem xlconst (hk : Fok k cc nL own ret nm rk mc ms) {n : Fin 2} {v : Int64} (d : decode cc pc = .ok (.lconst n, 1)) (hv : Int64.ofNat (n : Nat) = v) (kk : Wx k cells slots lay a x (pc + 1) L (.long v :: stk)) : Wx k cells slots lay a x pc L (stk) := by
  rcases k with ⟨p, e, s, m, args, below, meth, c, Q, A, R, g⟩
  obtain ⟨hx, hb, hml, hown, hts, hr, hlk, hK, hA, hA0, hR, hSg, hnm, hb0⟩ := hk
  intro H locs ls hP hD hS hl
  exact lv_lconst hx hb d hv (kk H locs ls hP hD hS hl)
theorem xiload_n (hk : Fok k cc nL own ret nm rk mc ms) {i : Fin 4} {v : Int32} (d : decode cc pc = .ok (.iload_n i, 1)) (hv : lk L i = some (.int v)) (kk : Wx k cells slots lay a x (pc + 1) L (.int v :: stk)) : Wx k cells slots lay a x pc L (stk) := by
  rcases k with ⟨p, e, s, m, args, below, meth, c, Q, A, R, g⟩
  obtain ⟨hx, hb, hml, hown, hts, hr, hlk, hK, hA, hA0, hR, hSg, hnm, hb0⟩ := hk
  intro H locs ls hP hD hS hl
  exact lv_iload_n hx hb d rfl (lk_at hl hv) (kk H locs ls hP hD hS hl)
theorem xiload (hk : Fok k cc nL own ret nm rk mc ms) {i : Nat} {v : Int32} (d : decode cc pc = .ok (.iload i, 2)) (hv : lk L i = some (.int v)) (kk : Wx k cells slots lay a x (pc + 2) L (.int v :: stk)) : Wx k cells slots lay a x pc L (stk) := by
  rcases k with ⟨p, e, s, m, args, below, meth, c, Q, A, R, g⟩
  obtain ⟨hx, hb, hml, hown, hts, hr, hlk, hK, hA, hA0, hR, hSg, hnm, hb0⟩ := hk
  intro H locs ls hP hD hS hl
  exact lv_iload hx hb d (lk_at hl hv) (kk H locs ls hP hD hS hl)
theorem xlload_n (hk : Fok k cc nL own ret nm rk mc ms) {i : Fin 4} {v : Int64} (d : decode cc pc = .ok (.lload_n i, 1)) (hv : lk L i = some (.long v)) (kk : Wx k cells slots lay a x (pc + 1) L (.long v :: stk)) : Wx k cells slots lay a x pc L (stk) := by
  rcases k with ⟨p, e, s, m, args, below, meth, c, Q, A, R, g⟩
  obtain ⟨hx, hb, hml, hown, hts, hr, hlk, hK, hA, hA0, hR, hSg, hnm, hb0⟩ := hk
  intro H locs ls hP hD hS hl
  exact lv_lload_n hx hb d rfl (lk_at hl hv) (kk H locs ls hP hD hS hl)
theorem xlload (hk : Fok k cc nL own ret nm rk mc ms) {i : Nat} {v : Int64} (d : decode cc pc = .ok (.lload i, 2)) (hv : lk L i = some (.long v)) (kk : Wx k cells slots lay a x (pc + 2) L (.long v :: stk)) : Wx k cells slots lay a x pc L (stk) := by
  rcases k with ⟨p, e, s, m, args, below, meth, c, Q, A, R, g⟩
  obtain ⟨hx, hb, hml, hown, hts, hr, hlk, hK, hA, hA0, hR, hSg, hnm, hb0⟩ := hk
  intro H locs ls hP hD hS hl
  exact lv_lload hx hb d (lk_at hl hv) (kk H locs ls hP hD hS hl)
theorem xaload_n (hk : Fok k cc nL own ret nm rk mc ms) {i : Fin 4} {v : Addr} (d : decode cc pc = .ok (.aload_n i, 1)) (hv : lk L i = some (.ref v)) (kk : Wx k cells slots lay a x (pc + 1) L (.ref v :: stk)) : Wx k cells slots lay a x pc L (stk) := by
  rcases k with ⟨p, e, s, m, args, below, meth, c, Q, A, R, g⟩
  obtain ⟨hx, hb, hml, hown, hts, hr, hlk, hK, hA, hA0, hR, hSg, hnm, hb0⟩ := hk
  intro H locs ls hP hD hS hl
  exact lv_aload_n hx hb d rfl (lk_at hl hv) (kk H locs ls hP hD hS hl)
theorem xaload (hk : Fok k cc nL own ret nm rk mc ms) {i : Nat} {v : Addr} (d : decode cc pc = .ok (.aload i, 2)) (hv : lk L i = some (.ref v)) (kk : Wx k cells slots lay a x (pc + 2) L (.ref v :: stk)) : Wx k cells slots lay a x pc L (stk) := by
  rcases k with ⟨p, e, s, m, args, below, meth, c, Q, A, R, g⟩
  obtain ⟨hx, hb, hml, hown, hts, hr, hlk, hK, hA, hA0, hR, hSg, hnm, hb0⟩ := hk
  intro H locs ls hP hD hS hl
  exact lv_aload hx hb d (lk_at hl hv) (kk H locs ls hP hD hS hl)
theorem xistore_n (hk : Fok k cc nL own ret nm rk mc ms) {i : Fin 4} {v : Int32} (d : decode cc pc = .ok (.istore_n i, 1)) (hi : (i : Nat) < nL) (kk : Wx k cells slots lay a x (pc + 1) (st1 L i (.int v)) stk) : Wx k cells slots lay a x pc L (.int v :: stk) := by
  rcases k with ⟨p, e, s, m, args, below, meth, c, Q, A, R, g⟩
  obtain ⟨hx, hb, hml, hown, hts, hr, hlk, hK, hA, hA0, hR, hSg, hnm, hb0⟩ := hk
  intro H locs ls hP hD hS hl
  exact lv_istore_n hx hb d rfl hl (by rw [hml]; exact hi) rfl (fun ls' hl' => kk H locs ls' hP hD hS (has_mono hl' (st1_mem _ _ _)))
theorem xistore (hk : Fok k cc nL own ret nm rk mc ms) {i : Nat} {v : Int32} (d : decode cc pc = .ok (.istore i, 2)) (hi : (i : Nat) < nL) (kk : Wx k cells slots lay a x (pc + 2) (st1 L i (.int v)) stk) : Wx k cells slots lay a x pc L (.int v :: stk) := by
  rcases k with ⟨p, e, s, m, args, below, meth, c, Q, A, R, g⟩
  obtain ⟨hx, hb, hml, hown, hts, hr, hlk, hK, hA, hA0, hR, hSg, hnm, hb0⟩ := hk
  intro H locs ls hP hD hS hl
  exact lv_istore hx hb d hl (by rw [hml]; exact hi) rfl (fun ls' hl' => kk H locs ls' hP hD hS (has_mono hl' (st1_mem _ _ _)))
theorem xlstore_n (hk : Fok k cc nL own ret nm rk mc ms) {i : Fin 4} {v : Int64} (d : decode cc pc = .ok (.lstore_n i, 1)) (hi : (i : Nat) + 1 < nL) (kk : Wx k cells slots lay a x (pc + 1) (st2 L i (.long v)) stk) : Wx k cells slots lay a x pc L (.long v :: stk) := by
  rcases k with ⟨p, e, s, m, args, below, meth, c, Q, A, R, g⟩
  obtain ⟨hx, hb, hml, hown, hts, hr, hlk, hK, hA, hA0, hR, hSg, hnm, hb0⟩ := hk
  intro H locs ls hP hD hS hl
  exact lv_lstore_n hx hb d rfl hl (by rw [hml]; exact hi) rfl (fun ls' hl' => kk H locs ls' hP hD hS (has_mono hl' (st2_mem _ _ _)))
theorem xlstore (hk : Fok k cc nL own ret nm rk mc ms) {i : Nat} {v : Int64} (d : decode cc pc = .ok (.lstore i, 2)) (hi : (i : Nat) + 1 < nL) (kk : Wx k cells slots lay a x (pc + 2) (st2 L i (.long v)) stk) : Wx k cells slots lay a x pc L (.long v :: stk) := by
  rcases k with ⟨p, e, s, m, args, below, meth, c, Q, A, R, g⟩
  obtain ⟨hx, hb, hml, hown, hts, hr, hlk, hK, hA, hA0, hR, hSg, hnm, hb0⟩ := hk
  intro H locs ls hP hD hS hl
  exact lv_lstore hx hb d hl (by rw [hml]; exact hi) rfl (fun ls' hl' => kk H locs ls' hP hD hS (has_mono hl' (st2_mem _ _ _)))
theorem xastore_n (hk : Fok k cc nL own ret nm rk mc ms) {i : Fin 4} {v : Addr} (d : decode cc pc = .ok (.astore_n i, 1)) (hi : (i : Nat) < nL) (kk : Wx k cells slots lay a x (pc + 1) (st1 L i (.ref v)) stk) : Wx k cells slots lay a x pc L (.ref v :: stk) := by
  rcases k with ⟨p, e, s, m, args, below, meth, c, Q, A, R, g⟩
  obtain ⟨hx, hb, hml, hown, hts, hr, hlk, hK, hA, hA0, hR, hSg, hnm, hb0⟩ := hk
  intro H locs ls hP hD hS hl
  exact lv_astore_n hx hb d rfl hl (by rw [hml]; exact hi) rfl (fun ls' hl' => kk H locs ls' hP hD hS (has_mono hl' (st1_mem _ _ _)))
theorem xastore (hk : Fok k cc nL own ret nm rk mc ms) {i : Nat} {v : Addr} (d : decode cc pc = .ok (.astore i, 2)) (hi : (i : Nat) < nL) (kk : Wx k cells slots lay a x (pc + 2) (st1 L i (.ref v)) stk) : Wx k cells slots lay a x pc L (.ref v :: stk) := by
  rcases k with ⟨p, e, s, m, args, below, meth, c, Q, A, R, g⟩
  obtain ⟨hx, hb, hml, hown, hts, hr, hlk, hK, hA, hA0, hR, hSg, hnm, hb0⟩ := hk
  intro H locs ls hP hD hS hl
  exact lv_astore hx hb d hl (by rw [hml]; exact hi) rfl (fun ls' hl' => kk H locs ls' hP hD hS (has_mono hl' (st1_mem _ _ _)))
theorem xiinc (hk : Fok k cc nL own ret nm rk mc ms) {i : Nat} {n : Int} {y v : Int32} (d : decode cc pc = .ok (.iinc i n, 3)) (hv : lk L i = some (.int y)) (hi : i < nL) (hy : y + Int32.ofInt n = v) (kk : Wx k cells slots lay a x (pc + 3) (st1 L i (.int v)) stk) : Wx k cells slots lay a x pc L stk := by
  rcases k with ⟨p, e, s, m, args, below, meth, c, Q, A, R, g⟩
  obtain ⟨hx, hb, hml, hown, hts, hr, hlk, hK, hA, hA0, hR, hSg, hnm, hb0⟩ := hk
  intro H locs ls hP hD hS hl
  obtain ⟨j, hj⟩ := List.getElem?_of_mem (lk_mem hv)
  exact lv_iinc (k := j) hx hb d hl hj hy (by rw [hml]; exact hi) rfl (fun ls' hl' => kk H locs ls' hP hD hS (has_mono hl' (st1_mem _ _ _)))
theorem xiadd (hk : Fok k cc nL own ret nm rk mc ms) {x1 y1 : Int32} (d : decode cc pc = .ok (.iadd, 1)) (kk : Wx k cells slots lay a x (pc + 1) L (.int (x1 + y1) :: stk)) : Wx k cells slots lay a x pc L (.int y1 :: .int x1 :: stk) := by
  rcases k with ⟨p, e, s, m, args, below, meth, c, Q, A, R, g⟩
  obtain ⟨hx, hb, hml, hown, hts, hr, hlk, hK, hA, hA0, hR, hSg, hnm, hb0⟩ := hk
  intro H locs ls hP hD hS hl
  exact lv_iadd hx hb d (kk H locs ls hP hD hS hl)
theorem xisub (hk : Fok k cc nL own ret nm rk mc ms) {x1 y1 : Int32} (d : decode cc pc = .ok (.isub, 1)) (kk : Wx k cells slots lay a x (pc + 1) L (.int (x1 - y1) :: stk)) : Wx k cells slots lay a x pc L (.int y1 :: .int x1 :: stk) := by
  rcases k with ⟨p, e, s, m, args, below, meth, c, Q, A, R, g⟩
  obtain ⟨hx, hb, hml, hown, hts, hr, hlk, hK, hA, hA0, hR, hSg, hnm, hb0⟩ := hk
  intro H locs ls hP hD hS hl
  exact lv_isub hx hb d (kk H locs ls hP hD hS hl)
theorem ximul (hk : Fok k cc nL own ret nm rk mc ms) {x1 y1 : Int32} (d : decode cc pc = .ok (.imul, 1)) (kk : Wx k cells slots lay a x (pc + 1) L (.int (x1 * y1) :: stk)) : Wx k cells slots lay a x pc L (.int y1 :: .int x1 :: stk) := by
  rcases k with ⟨p, e, s, m, args, below, meth, c, Q, A, R, g⟩
  obtain ⟨hx, hb, hml, hown, hts, hr, hlk, hK, hA, hA0, hR, hSg, hnm, hb0⟩ := hk
  intro H locs ls hP hD hS hl
  exact lv_imul hx hb d (kk H locs ls hP hD hS hl)
theorem xiand (hk : Fok k cc nL own ret nm rk mc ms) {x1 y1 : Int32} (d : decode cc pc = .ok (.iand, 1)) (kk : Wx k cells slots lay a x (pc + 1) L (.int (x1 &&& y1) :: stk)) : Wx k cells slots lay a x pc L (.int y1 :: .int x1 :: stk) := by
  rcases k with ⟨p, e, s, m, args, below, meth, c, Q, A, R, g⟩
  obtain ⟨hx, hb, hml, hown, hts, hr, hlk, hK, hA, hA0, hR, hSg, hnm, hb0⟩ := hk
  intro H locs ls hP hD hS hl
  exact lv_iand hx hb d (kk H locs ls hP hD hS hl)
theorem xior (hk : Fok k cc nL own ret nm rk mc ms) {x1 y1 : Int32} (d : decode cc pc = .ok (.ior, 1)) (kk : Wx k cells slots lay a x (pc + 1) L (.int (x1 ||| y1) :: stk)) : Wx k cells slots lay a x pc L (.int y1 :: .int x1 :: stk) := by
  rcases k with ⟨p, e, s, m, args, below, meth, c, Q, A, R, g⟩
  obtain ⟨hx, hb, hml, hown, hts, hr, hlk, hK, hA, hA0, hR, hSg, hnm, hb0⟩ := hk
  intro H locs ls hP hD hS hl
  exact lv_ior hx hb d (kk H locs ls hP hD hS hl)
theorem xixor (hk : Fok k cc nL own ret nm rk mc ms) {x1 y1 : Int32} (d : decode cc pc = .ok (.ixor, 1)) (kk : Wx k cells slots lay a x (pc + 1) L (.int (x1 ^^^ y1) :: stk)) : Wx k cells slots lay a x pc L (.int y1 :: .int x1 :: stk) := by
  rcases k with ⟨p, e, s, m, args, below, meth, c, Q, A, R, g⟩
  obtain ⟨hx, hb, hml, hown, hts, hr, hlk, hK, hA, hA0, hR, hSg, hnm, hb0⟩ := hk
  intro H locs ls hP hD hS hl
  exact lv_ixor hx hb d (kk H locs ls hP hD hS hl)
theorem xishl (hk : Fok k cc nL own ret nm rk mc ms) {x1 y1 : Int32} (d : decode cc pc = .ok (.ishl, 1)) (kk : Wx k cells slots lay a x (pc + 1) L (.int (x1 <<< (y1 &&& 31)) :: stk)) : Wx k cells slots lay a x pc L (.int y1 :: .int x1 :: stk) := by
  rcases k with ⟨p, e, s, m, args, below, meth, c, Q, A, R, g⟩
  obtain ⟨hx, hb, hml, hown, hts, hr, hlk, hK, hA, hA0, hR, hSg, hnm, hb0⟩ := hk
  intro H locs ls hP hD hS hl
  exact lv_ishl hx hb d (kk H locs ls hP hD hS hl)
theorem xishr (hk : Fok k cc nL own ret nm rk mc ms) {x1 y1 : Int32} (d : decode cc pc = .ok (.ishr, 1)) (kk : Wx k cells slots lay a x (pc + 1) L (.int (x1 >>> (y1 &&& 31)) :: stk)) : Wx k cells slots lay a x pc L (.int y1 :: .int x1 :: stk) := by
  rcases k with ⟨p, e, s, m, args, below, meth, c, Q, A, R, g⟩
  obtain ⟨hx, hb, hml, hown, hts, hr, hlk, hK, hA, hA0, hR, hSg, hnm, hb0⟩ := hk
  intro H locs ls hP hD hS hl
  exact lv_ishr hx hb d (kk H locs ls hP hD hS hl)
theorem xineg (hk : Fok k cc nL own ret nm rk mc ms) {x1 : Int32} (d : decode cc pc = .ok (.ineg, 1)) (kk : Wx k cells slots lay a x (pc + 1) L (.int (-x1) :: stk)) : Wx k cells slots lay a x pc L (.int x1 :: stk) := by
  rcases k with ⟨p, e, s, m, args, below, meth, c, Q, A, R, g⟩
  obtain ⟨hx, hb, hml, hown, hts, hr, hlk, hK, hA, hA0, hR, hSg, hnm, hb0⟩ := hk
  intro H locs ls hP hD hS hl
  exact lv_ineg hx hb d (kk H locs ls hP hD hS hl)
theorem xladd (hk : Fok k cc nL own ret nm rk mc ms) {x1 y1 : Int64} (d : decode cc pc = .ok (.ladd, 1)) (kk : Wx k cells slots lay a x (pc + 1) L (.long (x1 + y1) :: stk)) : Wx k cells slots lay a x pc L (.long y1 :: .long x1 :: stk) := by
  rcases k with ⟨p, e, s, m, args, below, meth, c, Q, A, R, g⟩
  obtain ⟨hx, hb, hml, hown, hts, hr, hlk, hK, hA, hA0, hR, hSg, hnm, hb0⟩ := hk
  intro H locs ls hP hD hS hl
  exact lv_ladd hx hb d (kk H locs ls hP hD hS hl)
theorem xlsub (hk : Fok k cc nL own ret nm rk mc ms) {x1 y1 : Int64} (d : decode cc pc = .ok (.lsub, 1)) (kk : Wx k cells slots lay a x (pc + 1) L (.long (x1 - y1) :: stk)) : Wx k cells slots lay a x pc L (.long y1 :: .long x1 :: stk) := by
  rcases k with ⟨p, e, s, m, args, below, meth, c, Q, A, R, g⟩
  obtain ⟨hx, hb, hml, hown, hts, hr, hlk, hK, hA, hA0, hR, hSg, hnm, hb0⟩ := hk
  intro H locs ls hP hD hS hl
  exact lv_lsub hx hb d (kk H locs ls hP hD hS hl)
theorem xlmul (hk : Fok k cc nL own ret nm rk mc ms) {x1 y1 : Int64} (d : decode cc pc = .ok (.lmul, 1)) (kk : Wx k cells slots lay a x (pc + 1) L (.long (x1 * y1) :: stk)) : Wx k cells slots lay a x pc L (.long y1 :: .long x1 :: stk) := by
  rcases k with ⟨p, e, s, m, args, below, meth, c, Q, A, R, g⟩
  obtain ⟨hx, hb, hml, hown, hts, hr, hlk, hK, hA, hA0, hR, hSg, hnm, hb0⟩ := hk
  intro H locs ls hP hD hS hl
  exact lv_lmul hx hb d (kk H locs ls hP hD hS hl)
theorem xland (hk : Fok k cc nL own ret nm rk mc ms) {x1 y1 : Int64} (d : decode cc pc = .ok (.land, 1)) (kk : Wx k cells slots lay a x (pc + 1) L (.long (x1 &&& y1) :: stk)) : Wx k cells slots lay a x pc L (.long y1 :: .long x1 :: stk) := by
  rcases k with ⟨p, e, s, m, args, below, meth, c, Q, A, R, g⟩
  obtain ⟨hx, hb, hml, hown, hts, hr, hlk, hK, hA, hA0, hR, hSg, hnm, hb0⟩ := hk
  intro H locs ls hP hD hS hl
  exact lv_land hx hb d (kk H locs ls hP hD hS hl)
theorem xlor (hk : Fok k cc nL own ret nm rk mc ms) {x1 y1 : Int64} (d : decode cc pc = .ok (.lor, 1)) (kk : Wx k cells slots lay a x (pc + 1) L (.long (x1 ||| y1) :: stk)) : Wx k cells slots lay a x pc L (.long y1 :: .long x1 :: stk) := by
  rcases k with ⟨p, e, s, m, args, below, meth, c, Q, A, R, g⟩
  obtain ⟨hx, hb, hml, hown, hts, hr, hlk, hK, hA, hA0, hR, hSg, hnm, hb0⟩ := hk
  intro H locs ls hP hD hS hl
  exact lv_lor hx hb d (kk H locs ls hP hD hS hl)
theorem xlxor (hk : Fok k cc nL own ret nm rk mc ms) {x1 y1 : Int64} (d : decode cc pc = .ok (.lxor, 1)) (kk : Wx k cells slots lay a x (pc + 1) L (.long (x1 ^^^ y1) :: stk)) : Wx k cells slots lay a x pc L (.long y1 :: .long x1 :: stk) := by
  rcases k with ⟨p, e, s, m, args, below, meth, c, Q, A, R, g⟩
  obtain ⟨hx, hb, hml, hown, hts, hr, hlk, hK, hA, hA0, hR, hSg, hnm, hb0⟩ := hk
  intro H locs ls hP hD hS hl
  exact lv_lxor hx hb d (kk H locs ls hP hD hS hl)
theorem xi2l (hk : Fok k cc nL own ret nm rk mc ms) {x1 : Int32} (d : decode cc pc = .ok (.i2l, 1)) (kk : Wx k cells slots lay a x (pc + 1) L (.long x1.toInt64 :: stk)) : Wx k cells slots lay a x pc L (.int x1 :: stk) := by
  rcases k with ⟨p, e, s, m, args, below, meth, c, Q, A, R, g⟩
  obtain ⟨hx, hb, hml, hown, hts, hr, hlk, hK, hA, hA0, hR, hSg, hnm, hb0⟩ := hk
  intro H locs ls hP hD hS hl
  exact lv_i2l hx hb d rfl (kk H locs ls hP hD hS hl)
theorem xl2i (hk : Fok k cc nL own ret nm rk mc ms) {x1 : Int64} (d : decode cc pc = .ok (.l2i, 1)) (kk : Wx k cells slots lay a x (pc + 1) L (.int x1.toInt32 :: stk)) : Wx k cells slots lay a x pc L (.long x1 :: stk) := by
  rcases k with ⟨p, e, s, m, args, below, meth, c, Q, A, R, g⟩
  obtain ⟨hx, hb, hml, hown, hts, hr, hlk, hK, hA, hA0, hR, hSg, hnm, hb0⟩ := hk
  intro H locs ls hP hD hS hl
  exact lv_l2i hx hb d rfl (kk H locs ls hP hD hS hl)
theorem xi2b (hk : Fok k cc nL own ret nm rk mc ms) {x1 : Int32} (d : decode cc pc = .ok (.i2b, 1)) (kk : Wx k cells slots lay a x (pc + 1) L (.int x1.toInt8.toInt32 :: stk)) : Wx k cells slots lay a x pc L (.int x1 :: stk) := by
  rcases k with ⟨p, e, s, m, args, below, meth, c, Q, A, R, g⟩
  obtain ⟨hx, hb, hml, hown, hts, hr, hlk, hK, hA, hA0, hR, hSg, hnm, hb0⟩ := hk
  intro H locs ls hP hD hS hl
  exact lv_i2b hx hb d rfl (kk H locs ls hP hD hS hl)
theorem xdup (hk : Fok k cc nL own ret nm rk mc ms) {v : Value} (d : decode cc pc = .ok (.dup, 1)) (hv : v.category = 1) (kk : Wx k cells slots lay a x (pc + 1) L (v :: v :: stk)) : Wx k cells slots lay a x pc L (v :: stk) := by
  rcases k with ⟨p, e, s, m, args, below, meth, c, Q, A, R, g⟩
  obtain ⟨hx, hb, hml, hown, hts, hr, hlk, hK, hA, hA0, hR, hSg, hnm, hb0⟩ := hk
  intro H locs ls hP hD hS hl
  exact lv_dup hx hb d hv (kk H locs ls hP hD hS hl)
theorem xpop (hk : Fok k cc nL own ret nm rk mc ms) {v : Value} (d : decode cc pc = .ok (.pop, 1)) (hv : v.category = 1) (kk : Wx k cells slots lay a x (pc + 1) L (stk)) : Wx k cells slots lay a x pc L (v :: stk) := by
  rcases k with ⟨p, e, s, m, args, below, meth, c, Q, A, R, g⟩
  obtain ⟨hx, hb, hml, hown, hts, hr, hlk, hK, hA, hA0, hR, hSg, hnm, hb0⟩ := hk
  intro H locs ls hP hD hS hl
  exact lv_pop hx hb d hv (kk H locs ls hP hD hS hl)
theorem xif_eq (hk : Fok k cc nL own ret nm rk mc ms) {x1 : Int32} {off : Int} (tgt : Nat) (d : decode cc pc = .ok (.ifCond .eq off, 3)) (ht : (pc : Int) + off = (tgt : Int)) (kt : x1 = 0 → Wx k cells slots lay a x tgt L stk) (kf : ¬ (x1 = 0) → Wx k cells slots lay a x (pc + 3) L stk) : Wx k cells slots lay a x pc L (.int x1 :: stk) := by
  rcases k with ⟨p, e, s, m, args, below, meth, c, Q, A, R, g⟩
  obtain ⟨hx, hb, hml, hown, hts, hr, hlk, hK, hA, hA0, hR, hSg, hnm, hb0⟩ := hk
  intro H locs ls hP hD hS hl
  exact lv_if_eq hx hb d ht (fun h => kt h H locs ls hP hD hS hl) (fun h => kf h H locs ls hP hD hS hl)
theorem xicmp_eq (hk : Fok k cc nL own ret nm rk mc ms) {x1 y1 : Int32} {off : Int} (tgt : Nat) (d : decode cc pc = .ok (.if_icmp .eq off, 3)) (ht : (pc : Int) + off = (tgt : Int)) (kt : x1 = y1 → Wx k cells slots lay a x tgt L stk) (kf : ¬ (x1 = y1) → Wx k cells slots lay a x (pc + 3) L stk) : Wx k cells slots lay a x pc L (.int y1 :: .int x1 :: stk) := by
  rcases k with ⟨p, e, s, m, args, below, meth, c, Q, A, R, g⟩
  obtain ⟨hx, hb, hml, hown, hts, hr, hlk, hK, hA, hA0, hR, hSg, hnm, hb0⟩ := hk
  intro H locs ls hP hD hS hl
  exact lv_icmp_eq hx hb d ht (fun h => kt h H locs ls hP hD hS hl) (fun h => kf h H locs ls hP hD hS hl)
theorem xif_ne (hk : Fok k cc nL own ret nm rk mc ms) {x1 : Int32} {off : Int} (tgt : Nat) (d : decode cc pc = .ok (.ifCond .ne off, 3)) (ht : (pc : Int) + off = (tgt : Int)) (kt : ¬ x1 = 0 → Wx k cells slots lay a x tgt L stk) (kf : x1 = 0 → Wx k cells slots lay a x (pc + 3) L stk) : Wx k cells slots lay a x pc L (.int x1 :: stk) := by
  rcases k with ⟨p, e, s, m, args, below, meth, c, Q, A, R, g⟩
  obtain ⟨hx, hb, hml, hown, hts, hr, hlk, hK, hA, hA0, hR, hSg, hnm, hb0⟩ := hk
  intro H locs ls hP hD hS hl
  exact lv_if_ne hx hb d ht (fun h => kt h H locs ls hP hD hS hl) (fun h => kf h H locs ls hP hD hS hl)
theorem xicmp_ne (hk : Fok k cc nL own ret nm rk mc ms) {x1 y1 : Int32} {off : Int} (tgt : Nat) (d : decode cc pc = .ok (.if_icmp .ne off, 3)) (ht : (pc : Int) + off = (tgt : Int)) (kt : ¬ x1 = y1 → Wx k cells slots lay a x tgt L stk) (kf : x1 = y1 → Wx k cells slots lay a x (pc + 3) L stk) : Wx k cells slots lay a x pc L (.int y1 :: .int x1 :: stk) := by
  rcases k with ⟨p, e, s, m, args, below, meth, c, Q, A, R, g⟩
  obtain ⟨hx, hb, hml, hown, hts, hr, hlk, hK, hA, hA0, hR, hSg, hnm, hb0⟩ := hk
  intro H locs ls hP hD hS hl
  exact lv_icmp_ne hx hb d ht (fun h => kt h H locs ls hP hD hS hl) (fun h => kf h H locs ls hP hD hS hl)
theorem xif_lt (hk : Fok k cc nL own ret nm rk mc ms) {x1 : Int32} {off : Int} (tgt : Nat) (d : decode cc pc = .ok (.ifCond .lt off, 3)) (ht : (pc : Int) + off = (tgt : Int)) (kt : x1 < 0 → Wx k cells slots lay a x tgt L stk) (kf : ¬ (x1 < 0) → Wx k cells slots lay a x (pc + 3) L stk) : Wx k cells slots lay a x pc L (.int x1 :: stk) := by
  rcases k with ⟨p, e, s, m, args, below, meth, c, Q, A, R, g⟩
  obtain ⟨hx, hb, hml, hown, hts, hr, hlk, hK, hA, hA0, hR, hSg, hnm, hb0⟩ := hk
  intro H locs ls hP hD hS hl
  exact lv_if_lt hx hb d ht (fun h => kt h H locs ls hP hD hS hl) (fun h => kf h H locs ls hP hD hS hl)
theorem xicmp_lt (hk : Fok k cc nL own ret nm rk mc ms) {x1 y1 : Int32} {off : Int} (tgt : Nat) (d : decode cc pc = .ok (.if_icmp .lt off, 3)) (ht : (pc : Int) + off = (tgt : Int)) (kt : x1 < y1 → Wx k cells slots lay a x tgt L stk) (kf : ¬ (x1 < y1) → Wx k cells slots lay a x (pc + 3) L stk) : Wx k cells slots lay a x pc L (.int y1 :: .int x1 :: stk) := by
  rcases k with ⟨p, e, s, m, args, below, meth, c, Q, A, R, g⟩
  obtain ⟨hx, hb, hml, hown, hts, hr, hlk, hK, hA, hA0, hR, hSg, hnm, hb0⟩ := hk
  intro H locs ls hP hD hS hl
  exact lv_icmp_lt hx hb d ht (fun h => kt h H locs ls hP hD hS hl) (fun h => kf h H locs ls hP hD hS hl)
theorem xif_ge (hk : Fok k cc nL own ret nm rk mc ms) {x1 : Int32} {off : Int} (tgt : Nat) (d : decode cc pc = .ok (.ifCond .ge off, 3)) (ht : (pc : Int) + off = (tgt : Int)) (kt : 0 ≤ x1 → Wx k cells slots lay a x tgt L stk) (kf : ¬ (0 ≤ x1) → Wx k cells slots lay a x (pc + 3) L stk) : Wx k cells slots lay a x pc L (.int x1 :: stk) := by
  rcases k with ⟨p, e, s, m, args, below, meth, c, Q, A, R, g⟩
  obtain ⟨hx, hb, hml, hown, hts, hr, hlk, hK, hA, hA0, hR, hSg, hnm, hb0⟩ := hk
  intro H locs ls hP hD hS hl
  exact lv_if_ge hx hb d ht (fun h => kt h H locs ls hP hD hS hl) (fun h => kf h H locs ls hP hD hS hl)
theorem xicmp_ge (hk : Fok k cc nL own ret nm rk mc ms) {x1 y1 : Int32} {off : Int} (tgt : Nat) (d : decode cc pc = .ok (.if_icmp .ge off, 3)) (ht : (pc : Int) + off = (tgt : Int)) (kt : y1 ≤ x1 → Wx k cells slots lay a x tgt L stk) (kf : ¬ (y1 ≤ x1) → Wx k cells slots lay a x (pc + 3) L stk) : Wx k cells slots lay a x pc L (.int y1 :: .int x1 :: stk) := by
  rcases k with ⟨p, e, s, m, args, below, meth, c, Q, A, R, g⟩
  obtain ⟨hx, hb, hml, hown, hts, hr, hlk, hK, hA, hA0, hR, hSg, hnm, hb0⟩ := hk
  intro H locs ls hP hD hS hl
  exact lv_icmp_ge hx hb d ht (fun h => kt h H locs ls hP hD hS hl) (fun h => kf h H locs ls hP hD hS hl)
theorem xif_gt (hk : Fok k cc nL own ret nm rk mc ms) {x1 : Int32} {off : Int} (tgt : Nat) (d : decode cc pc = .ok (.ifCond .gt off, 3)) (ht : (pc : Int) + off = (tgt : Int)) (kt : 0 < x1 → Wx k cells slots lay a x tgt L stk) (kf : ¬ (0 < x1) → Wx k cells slots lay a x (pc + 3) L stk) : Wx k cells slots lay a x pc L (.int x1 :: stk) := by
  rcases k with ⟨p, e, s, m, args, below, meth, c, Q, A, R, g⟩
  obtain ⟨hx, hb, hml, hown, hts, hr, hlk, hK, hA, hA0, hR, hSg, hnm, hb0⟩ := hk
  intro H locs ls hP hD hS hl
  exact lv_if_gt hx hb d ht (fun h => kt h H locs ls hP hD hS hl) (fun h => kf h H locs ls hP hD hS hl)
theorem xicmp_gt (hk : Fok k cc nL own ret nm rk mc ms) {x1 y1 : Int32} {off : Int} (tgt : Nat) (d : decode cc pc = .ok (.if_icmp .gt off, 3)) (ht : (pc : Int) + off = (tgt : Int)) (kt : y1 < x1 → Wx k cells slots lay a x tgt L stk) (kf : ¬ (y1 < x1) → Wx k cells slots lay a x (pc + 3) L stk) : Wx k cells slots lay a x pc L (.int y1 :: .int x1 :: stk) := by
  rcases k with ⟨p, e, s, m, args, below, meth, c, Q, A, R, g⟩
  obtain ⟨hx, hb, hml, hown, hts, hr, hlk, hK, hA, hA0, hR, hSg, hnm, hb0⟩ := hk
  intro H locs ls hP hD hS hl
  exact lv_icmp_gt hx hb d ht (fun h => kt h H locs ls hP hD hS hl) (fun h => kf h H locs ls hP hD hS hl)
theorem xif_le (hk : Fok k cc nL own ret nm rk mc ms) {x1 : Int32} {off : Int} (tgt : Nat) (d : decode cc pc = .ok (.ifCond .le off, 3)) (ht : (pc : Int) + off = (tgt : Int)) (kt : x1 ≤ 0 → Wx k cells slots lay a x tgt L stk) (kf : ¬ (x1 ≤ 0) → Wx k cells slots lay a x (pc + 3) L stk) : Wx k cells slots lay a x pc L (.int x1 :: stk) := by
  rcases k with ⟨p, e, s, m, args, below, meth, c, Q, A, R, g⟩
  obtain ⟨hx, hb, hml, hown, hts, hr, hlk, hK, hA, hA0, hR, hSg, hnm, hb0⟩ := hk
  intro H locs ls hP hD hS hl
  exact lv_if_le hx hb d ht (fun h => kt h H locs ls hP hD hS hl) (fun h => kf h H locs ls hP hD hS hl)
theorem xicmp_le (hk : Fok k cc nL own ret nm rk mc ms) {x1 y1 : Int32} {off : Int} (tgt : Nat) (d : decode cc pc = .ok (.if_icmp .le off, 3)) (ht : (pc : Int) + off = (tgt : Int)) (kt : x1 ≤ y1 → Wx k cells slots lay a x tgt L stk) (kf : ¬ (x1 ≤ y1) → Wx k cells slots lay a x (pc + 3) L stk) : Wx k cells slots lay a x pc L (.int y1 :: .int x1 :: stk) := by
  rcases k with ⟨p, e, s, m, args, below, meth, c, Q, A, R, g⟩
  obtain ⟨hx, hb, hml, hown, hts, hr, hlk, hK, hA, hA0, hR, hSg, hnm, hb0⟩ := hk
  intro H locs ls hP hD hS hl
  exact lv_icmp_le hx hb d ht (fun h => kt h H locs ls hP hD hS hl) (fun h => kf h H locs ls hP hD hS hl)
theorem xgoto (hk : Fok k cc nL own ret nm rk mc ms) {off : Int} (tgt : Nat) (d : decode cc pc = .ok (.goto off, 3)) (ht : (pc : Int) + off = (tgt : Int)) (kk : Wx k cells slots lay a x tgt L stk) : Wx k cells slots lay a x pc L stk := by
  rcases k with ⟨p, e, s, m, args, below, meth, c, Q, A, R, g⟩
  obtain ⟨hx, hb, hml, hown, hts, hr, hlk, hK, hA, hA0, hR, hSg, hnm, hb0⟩ := hk
  intro H locs ls hP hD hS hl
  exact lv_goto hx hb d ht (kk H locs ls hP hD hS hl)
end WX
