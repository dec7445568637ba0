/-! More rows -/
section WM
variable {k : Kx} {cc : ByteArray} {nL rk mc ms pc cells slots : Nat} {own nm : String} {ret : Option FieldType} {lay : List Kd} {a : Nat → Nat} {x : XS} {L : List (Nat × Value)} {stk : List Value}
theorem xgetI (hk : Fok k cc nL own ret nm rk mc ms) {q ci f idx N : Nat} {C : String} {F : u_T} (d : decode cc pc = .ok (.getfield idx, 3)) (hf : fdOk lay q ci f 0 C F N) (hw : Cond.fieldLink own idx (F f).1 (F f).2.1 (F f).2.2.1 ∈ GW) (kk : Wx k cells slots lay a x (pc + 3) L (.int (x.1 q f) :: stk)) : Wx k cells slots lay a x pc L (.ref (a q) :: stk) := xget hk d hf hw kk
theorem xgetL (hk : Fok k cc nL own ret nm rk mc ms) {q ci f idx N : Nat} {C : String} {F : u_T} (d : decode cc pc = .ok (.getfield idx, 3)) (hf : fdOk lay q ci f 1 C F N) (hw : Cond.fieldLink own idx (F f).1 (F f).2.1 (F f).2.2.1 ∈ GW) (kk : Wx k cells slots lay a x (pc + 3) L (.long (x.2 q f) :: stk)) : Wx k cells slots lay a x pc L (.ref (a q) :: stk) := xget hk d hf hw kk
theorem xgetR (hk : Fok k cc nL own ret nm rk mc ms) {q ci f idx N j : Nat} {C : String} {F : u_T} (d : decode cc pc = .ok (.getfield idx, 3)) (hf : fdOk lay q ci f (j + 3) C F N) (hw : Cond.fieldLink own idx (F f).1 (F f).2.1 (F f).2.2.1 ∈ GW) (kk : Wx k cells slots lay a x (pc + 3) L (.ref (a j) :: stk)) : Wx k cells slots lay a x pc L (.ref (a q) :: stk) := xget hk d hf hw kk
theorem xgetNI (hk : Fok k cc nL own ret nm rk mc ms) {q ci f idx N : Nat} {C host : String} {F : u_T} (d : decode cc pc = .ok (.getfield idx, 3)) (hf : fdOk lay q ci f 0 C F N) (hw : Cond.fieldLinkNest own idx (F f).1 (F f).2.1 (F f).2.2.1 host ∈ NW) (kk : Wx k cells slots lay a x (pc + 3) L (.int (x.1 q f) :: stk)) : Wx k cells slots lay a x pc L (.ref (a q) :: stk) := xgetN hk d hf hw kk
theorem xgetNR (hk : Fok k cc nL own ret nm rk mc ms) {q ci f idx N j : Nat} {C host : String} {F : u_T} (d : decode cc pc = .ok (.getfield idx, 3)) (hf : fdOk lay q ci f (j + 3) C F N) (hw : Cond.fieldLinkNest own idx (F f).1 (F f).2.1 (F f).2.2.1 host ∈ NW) (kk : Wx k cells slots lay a x (pc + 3) L (.ref (a j) :: stk)) : Wx k cells slots lay a x pc L (.ref (a q) :: stk) := xgetN hk d hf hw kk
theorem xldc (hk : Fok k cc nL own ret nm rk mc ms) {idx : Nat} (v : Int32) (d : decode cc pc = .ok (.ldc idx, 2)) (hw : Cond.constant own idx v ∈ GW) (kk : Wx k cells slots lay a x (pc + 2) L (.int v :: stk)) : Wx k cells slots lay a x pc L stk := by
  rcases k with ⟨p, e, s, m, args, below, meth, c, Q, A, R, g⟩
  obtain ⟨hx, hb, hml, hown, hts, hr, hlk, hK, hA, hA0, hR, hSg, hnm, hb0⟩ := hk
  intro H locs ls hP hD hS hl
  exact lv_ldc hx hb hown (hts _ hw) d (kk H locs ls hP hD hS hl)
theorem xldc2 (hk : Fok k cc nL own ret nm rk mc ms) {idx : Nat} (v : Int64) (d : decode cc pc = .ok (.ldc2_w idx, 3)) (hw : Cond.constantLong own idx v ∈ GW) (kk : Wx k cells slots lay a x (pc + 3) L (.long v :: stk)) : Wx k cells slots lay a x pc L stk := by
  rcases k with ⟨p, e, s, m, args, below, meth, c, Q, A, R, g⟩
  obtain ⟨hx, hb, hml, hown, hts, hr, hlk, hK, hA, hA0, hR, hSg, hnm, hb0⟩ := hk
  intro H locs ls hP hD hS hl
  exact lv_ldc2 hx hb hown (hts _ hw) d (kk H locs ls hP hD hS hl)
theorem xlcmp (hk : Fok k cc nL own ret nm rk mc ms) {x1 y1 : Int64} (d : decode cc pc = .ok (.lcmp, 1)) (kk : Wx k cells slots lay a x (pc + 1) L (.int (lg_cmp x1 y1) :: stk)) : Wx k cells slots lay a x pc L (.long y1 :: .long x1 :: stk) := by
  rcases k with ⟨p, e, s, m, args, below, meth, c, Q, A, R, g⟩
  obtain ⟨hx, hb, hml, hown, hts, hr, hlk, hK, hA, hA0, hR, hSg, hnm, hb0⟩ := hk
  intro H locs ls hP hD hS hl
  exact W.lcmp hx hb d (kk H locs ls hP hD hS hl)
def ushrI (v n : Int32) : Int32 := (v.toUInt32 >>> (n.toUInt32 &&& Int32.toUInt32 31)).toInt32
def ushrL (v : Int64) (n : Int32) : Int64 := (v.toUInt64 >>> (n.toInt64.toUInt64 &&& Int64.toUInt64 63)).toInt64
def shlL (v : Int64) (n : Int32) : Int64 := v <<< (n.toInt64 &&& 63)
theorem xiushr (hk : Fok k cc nL own ret nm rk mc ms) {x1 y1 : Int32} (d : decode cc pc = .ok (.iushr, 1)) (kk : Wx k cells slots lay a x (pc + 1) L (.int (ushrI x1 y1) :: stk)) : Wx k cells slots lay a x pc L (.int y1 :: .int x1 :: stk) := by
  rcases k with ⟨p, e, s, m, args, below, meth, c, Q, A, R, g⟩
  obtain ⟨hx, hb, hml, hown, hts, hr, hlk, hK, hA, hA0, hR, hSg, hnm, hb0⟩ := hk
  intro H locs ls hP hD hS hl
  exact lv_iushr hx hb d rfl (kk H locs ls hP hD hS hl)
theorem xlushr (hk : Fok k cc nL own ret nm rk mc ms) {x1 : Int64} {y1 : Int32} (d : decode cc pc = .ok (.lushr, 1)) (kk : Wx k cells slots lay a x (pc + 1) L (.long (ushrL x1 y1) :: stk)) : Wx k cells slots lay a x pc L (.int y1 :: .long x1 :: stk) := by
  rcases k with ⟨p, e, s, m, args, below, meth, c, Q, A, R, g⟩
  obtain ⟨hx, hb, hml, hown, hts, hr, hlk, hK, hA, hA0, hR, hSg, hnm, hb0⟩ := hk
  intro H locs ls hP hD hS hl
  exact lv_lushr hx hb d rfl (kk H locs ls hP hD hS hl)
theorem xlshl (hk : Fok k cc nL own ret nm rk mc ms) {x1 : Int64} {y1 : Int32} (d : decode cc pc = .ok (.lshl, 1)) (kk : Wx k cells slots lay a x (pc + 1) L (.long (shlL x1 y1) :: stk)) : Wx k cells slots lay a x pc L (.int y1 :: .long x1 :: stk) := by
  rcases k with ⟨p, e, s, m, args, below, meth, c, Q, A, R, g⟩
  obtain ⟨hx, hb, hml, hown, hts, hr, hlk, hK, hA, hA0, hR, hSg, hnm, hb0⟩ := hk
  intro H locs ls hP hD hS hl
  exact lv_lshl hx hb d rfl (kk H locs ls hP hD hS hl)
theorem xidiv (hk : Fok k cc nL own ret nm rk mc ms) {x1 y1 : Int32} (d : decode cc pc = .ok (.idiv, 1)) (hne : ¬ y1 = 0) (kk : Wx k cells slots lay a x (pc + 1) L (.int (x1 / y1) :: stk)) : Wx k cells slots lay a x pc L (.int y1 :: .int x1 :: stk) := by
  rcases k with ⟨p, e, s, m, args, below, meth, c, Q, A, R, g⟩
  obtain ⟨hx, hb, hml, hown, hts, hr, hlk, hK, hA, hA0, hR, hSg, hnm, hb0⟩ := hk
  intro H locs ls hP hD hS hl
  exact lv_idiv hx hb d hne (kk H locs ls hP hD hS hl)
theorem xirem (hk : Fok k cc nL own ret nm rk mc ms) {x1 y1 : Int32} (d : decode cc pc = .ok (.irem, 1)) (hne : ¬ y1 = 0) (kk : Wx k cells slots lay a x (pc + 1) L (.int (x1 - x1 / y1 * y1) :: stk)) : Wx k cells slots lay a x pc L (.int y1 :: .int x1 :: stk) := by
  rcases k with ⟨p, e, s, m, args, below, meth, c, Q, A, R, g⟩
  obtain ⟨hx, hb, hml, hown, hts, hr, hlk, hK, hA, hA0, hR, hSg, hnm, hb0⟩ := hk
  intro H locs ls hP hD hS hl
  exact lv_irem hx hb d hne (kk H locs ls hP hD hS hl)
theorem xi2c (hk : Fok k cc nL own ret nm rk mc ms) {x1 : Int32} (d : decode cc pc = .ok (.i2c, 1)) (kk : Wx k cells slots lay a x (pc + 1) L (.int (x1.toUInt32 % 65536).toInt32 :: stk)) : Wx k cells slots lay a x pc L (.int x1 :: stk) := by
  rcases k with ⟨p, e, s, m, args, below, meth, c, Q, A, R, g⟩
  obtain ⟨hx, hb, hml, hown, hts, hr, hlk, hK, hA, hA0, hR, hSg, hnm, hb0⟩ := hk
  intro H locs ls hP hD hS hl
  exact lv_i2c hx hb d rfl (kk H locs ls hP hD hS hl)
theorem xdup2 (hk : Fok k cc nL own ret nm rk mc ms) {va vb : Value} (d : decode cc pc = .ok (.dup2, 1)) (hva : va.category = 1) (hvb : vb.category = 1) (kk : Wx k cells slots lay a x (pc + 1) L (va :: vb :: va :: vb :: stk)) : Wx k cells slots lay a x pc L (va :: vb :: stk) := by
  rcases k with ⟨p, e, s, m, args, below, meth, c, Q, A, R, g⟩
  obtain ⟨hx, hb, hml, hown, hts, hr, hlk, hK, hA, hA0, hR, hSg, hnm, hb0⟩ := hk
  intro H locs ls hP hD hS hl
  exact lv_dup2_11 hx hb d hva hvb (kk H locs ls hP hD hS hl)
def maxI (v w : Int32) : Int32 := if v < w then w else v
def minI (v w : Int32) : Int32 := if w < v then w else v
theorem xmmax (hk : Fok k cc nL own ret nm rk mc ms) {idx : Nat} {x1 y1 : Int32} (d : decode cc pc = .ok (.invokestatic idx, 3)) (hw : Cond.methodLink own idx Lib.Math.max.name ∈ GW) (hw2 : Cond.static Lib.Math.max.name ∈ GW ∧ Cond.initialized "java/lang/Math" ∈ GW ∧ Cond.code Lib.Math.max.name Lib.Math.max.code 2 (some .int) ∈ GW) (hrk : 0 < rk) (hc : cells ≤ mc ∧ slots ≤ ms) (hst : (stk.map fun v => v.category).sum ≤ 8) (kk : Wx k cells slots lay a x (pc + 3) L (.int (maxI x1 y1) :: stk)) : Wx k cells slots lay a x pc L (.int y1 :: .int x1 :: stk) := by
  rcases k with ⟨p, e, s, m, args, below, meth, c, Q, A, R, g⟩
  obtain ⟨hx, hb, hml, hown, hts, hr, hlk, hK, hA, hA0, hR, hSg, hnm, hb0⟩ := hk
  subst hR
  intro H locs ls hP hD hS hl
  exact va_mmax hx hb hl.1.symm hown (hts _ hw) (hts _ hw2.1) (hts _ hw2.2.1) (hts _ hw2.2.2) (by exact hrk) (by show _ + 13 ≤ 64 * rk; omega) (by exact hc.1) (by exact hc.2) d (kk H locs ls hP hD hS hl)
theorem xmmin (hk : Fok k cc nL own ret nm rk mc ms) {idx : Nat} {x1 y1 : Int32} (d : decode cc pc = .ok (.invokestatic idx, 3)) (hw : Cond.methodLink own idx Lib.Math.min.name ∈ GW) (hw2 : Cond.static Lib.Math.min.name ∈ GW ∧ Cond.initialized "java/lang/Math" ∈ GW ∧ Cond.code Lib.Math.min.name Lib.Math.min.code 2 (some .int) ∈ GW) (hrk : 0 < rk) (hc : cells ≤ mc ∧ slots ≤ ms) (hst : (stk.map fun v => v.category).sum ≤ 8) (kk : Wx k cells slots lay a x (pc + 3) L (.int (minI x1 y1) :: stk)) : Wx k cells slots lay a x pc L (.int y1 :: .int x1 :: stk) := by
  rcases k with ⟨p, e, s, m, args, below, meth, c, Q, A, R, g⟩
  obtain ⟨hx, hb, hml, hown, hts, hr, hlk, hK, hA, hA0, hR, hSg, hnm, hb0⟩ := hk
  subst hR
  intro H locs ls hP hD hS hl
  exact va_mmin hx hb hl.1.symm hown (hts _ hw) (hts _ hw2.1) (hts _ hw2.2.1) (hts _ hw2.2.2) (by exact hrk) (by show _ + 13 ≤ 64 * rk; omega) (by exact hc.1) (by exact hc.2) d (kk H locs ls hP hD hS hl)
theorem xlookup (hk : Fok k cc nL own ret nm rk mc ms) {dflt : Int} {ps : Array (Int × Int)} {len : Nat} {y1 : Int32} {off : Int} (tgt : Nat) (d : decode cc pc = .ok (.lookupswitch dflt ps, len)) (hp : (ps.toList.zip (ps.toList.drop 1)).all (fun (a, next) => a.1 < next.1) = true) (ho : Op.lookupswitch.offset ps.toList dflt y1.toInt = off) (ht : (pc : Int) + off = (tgt : Int)) (kk : Wx k cells slots lay a x tgt L stk) : Wx k cells slots lay a x pc L (.int y1 :: stk) := by
  rcases k with ⟨p, e, s, m, args, below, meth, c, Q, A, R, g⟩
  obtain ⟨hx, hb, hml, hown, hts, hr, hlk, hK, hA, hA0, hR, hSg, hnm, hb0⟩ := hk
  intro H locs ls hP hD hS hl
  exact lv_lookup hx hb d hp ho ht (kk H locs ls hP hD hS hl)
theorem xtableOut (hk : Fok k cc nL own ret nm rk mc ms) {dflt lo hi : Int} {offs : Array Int} {len : Nat} {y1 : Int32} (tgt : Nat) (d : decode cc pc = .ok (.tableswitch dflt lo hi offs, len)) (h : y1.toInt < lo ∨ hi < y1.toInt) (ht : (pc : Int) + dflt = (tgt : Int)) (kk : Wx k cells slots lay a x tgt L stk) : Wx k cells slots lay a x pc L (.int y1 :: stk) := by
  rcases k with ⟨p, e, s, m, args, below, meth, c, Q, A, R, g⟩
  obtain ⟨hx, hb, hml, hown, hts, hr, hlk, hK, hA, hA0, hR, hSg, hnm, hb0⟩ := hk
  intro H locs ls hP hD hS hl
  exact lv_tableOut hx hb d h ht (kk H locs ls hP hD hS hl)
theorem xtableIn (hk : Fok k cc nL own ret nm rk mc ms) {dflt lo hi : Int} {offs : Array Int} {len : Nat} {y1 : Int32} {off : Int} (tgt : Nat) (d : decode cc pc = .ok (.tableswitch dflt lo hi offs, len)) (h1 : ¬ y1.toInt < lo) (h2 : ¬ hi < y1.toInt) (ho : offs[(y1.toInt - lo).toNat]? = some off) (ht : (pc : Int) + off = (tgt : Int)) (kk : Wx k cells slots lay a x tgt L stk) : Wx k cells slots lay a x pc L (.int y1 :: stk) := by
  rcases k with ⟨p, e, s, m, args, below, meth, c, Q, A, R, g⟩
  obtain ⟨hx, hb, hml, hown, hts, hr, hlk, hK, hA, hA0, hR, hSg, hnm, hb0⟩ := hk
  intro H locs ls hP hD hS hl
  exact lv_tableIn hx hb d h1 h2 ho ht (kk H locs ls hP hD hS hl)
theorem xgetsR (hk : Fok k cc nL own ret nm rk mc ms) {idx : Nat} (d : decode cc pc = .ok (.getstatic idx, 3)) (hw : Cond.fieldLink own idx RX3 "RIDES_IN_WORD" "[J" ∈ GW) (kk : Wx k cells slots lay a x (pc + 3) L (.ref ((kg k).2.2.2.2 0) :: stk)) : Wx k cells slots lay a x pc L stk := by
  rcases k with ⟨p, e, s, m, args, below, meth, c, Q, A, R, g⟩
  obtain ⟨hx, hb, hml, hown, hts, hr, hlk, hK, hA, hA0, hR, hSg, hnm, hb0⟩ := hk
  intro H locs ls hP hD hS hl
  exact va_gets hx hb (hSg.2.1.narrow hA0) hS hown (hts _ hw) (fun _ h => h) d (kk H locs ls hP hD hS hl)
theorem xridesLen (hk : Fok k cc nL own ret nm rk mc ms) (d : decode cc pc = .ok (.arraylength, 1)) (kk : Wx k cells slots lay a x (pc + 1) L (.int 6 :: stk)) : Wx k cells slots lay a x pc L (.ref ((kg k).2.2.2.2 0) :: stk) := by
  rcases k with ⟨p, e, s, m, args, below, meth, c, Q, A, R, g⟩
  obtain ⟨hx, hb, hml, hown, hts, hr, hlk, hK, hA, hA0, hR, hSg, hnm, hb0⟩ := hk
  intro H locs ls hP hD hS hl
  exact va_tlen hx hb (hSg.2.2.1.narrow hA0) hS rfl d (kk H locs ls hP hD hS hl)
theorem xridesGet (hk : Fok k cc nL own ret nm rk mc ms) {i : Int32} (d : decode cc pc = .ok (.laload, 1)) (hi : vp_in i 6) (kk : Wx k cells slots lay a x (pc + 1) L (ridesV i.toNatClampNeg :: stk)) : Wx k cells slots lay a x pc L (.int i :: .ref ((kg k).2.2.2.2 0) :: stk) := by
  rcases k with ⟨p, e, s, m, args, below, meth, c, Q, A, R, g⟩
  obtain ⟨hx, hb, hml, hown, hts, hr, hlk, hK, hA, hA0, hR, hSg, hnm, hb0⟩ := hk
  intro H locs ls hP hD hS hl
  exact va_tl hx hb (hSg.2.2.1.narrow hA0) hS hi rfl d (kk H locs ls hP hD hS hl)
end WM
def b2i (b : Bool) : Int32 := if b then 1 else 0
theorem b2i_0 (b : Bool) : b2i b = 0 ↔ b = false := by cases b <;> simp [b2i]
theorem b2i_1 (b : Bool) : b2i b = 1 ↔ b = true := by cases b <;> simp [b2i]
theorem nar_b (b : Bool) : narrow .boolean (.int (b2i b)) = .int (b2i b) := by cases b <;> rfl
/-! The places of the cells: the book's, the reference's -/
def LF : List Kd := [.inl (8, [4, 6, 11, 24, 37, 40, 43, 47, 49, 50, 0]), .inl (5, [5, 0]), .inr (2, 2000), .inl (6, [7, 8, 9, 10, 0, 0, 1]), .inr (1, 27), .inr (0, 401), .inr (0, 401), .inr (1, 401),
  .inl (0, [0, 0, 12, 13, 14, 15, 16, 0, 17, 18, 19, 20, 0, 21, 22, 23]), .inr (0, 20), .inr (0, 20), .inr (0, 20), .inr (0, 20), .inr (0, 20), .inr (0, 16), .inr (0, 16), .inr (0, 16), .inr (0, 16), .inr (0, 400), .inr (0, 400), .inr (0, 400),
  .inl (0, [0, 0, 25, 26, 27, 28, 29, 0, 30, 31, 32, 33, 0, 34, 35, 36]), .inr (0, 20), .inr (0, 20), .inr (0, 20), .inr (0, 20), .inr (0, 20), .inr (0, 16), .inr (0, 16), .inr (0, 16), .inr (0, 16), .inr (0, 400), .inr (0, 400), .inr (0, 400),
  .inl (4, [6, 11, 38, 39, 0, 0, 0]), .inr (1, 10), .inr (1, 20), .inl (7, [24, 41, 42, 0, 0, 0]), .inr (0, 20), .inr (0, 20), .inl (3, [24, 44, 45, 46, 0, 0, 0]), .inr (1, 16), .inr (1, 16), .inr (1, 320),
  .inl (2, [24, 40, 43, 48, 0]), .inr (0, 400), .inl (1, [0, 0, 0]), .inl (1, [0, 0, 0])]
/-- fewer listed locals -/
theorem xlocs {k : Kx} {pc cells slots : Nat} {lay : List Kd} {a : Nat → Nat} {x : XS} {L L' : List (Nat × Value)} {stk : List Value} (h : ∀ q ∈ L', q ∈ L) (kk : Wx k cells slots lay a x pc L' stk) : Wx k cells slots lay a x pc L stk := by
  rcases k with ⟨p, e, s, m, args, below, meth, c, Q, A, R, g⟩
  intro H locs ls hP hD hS hl
  exact kk H locs ls hP hD hS (has_mono hl h)
/-- fewer listed locals, by a program: every listed one is there -/
theorem xsub {k : Kx} {pc cells slots : Nat} {lay : List Kd} {a : Nat → Nat} {x : XS} {L : List (Nat × Value)} {stk : List Value} (L' : List (Nat × Value)) (h : L'.map (fun q => lk L q.1) = L'.map (fun q => some q.2)) (kk : Wx k cells slots lay a x pc L' stk) : Wx k cells slots lay a x pc L stk := by
  refine xlocs (fun q hq => ?_) kk
  obtain ⟨i, hi⟩ := List.getElem?_of_mem hq
  have h1 : (L'.map (fun q => lk L q.1))[i]? = (L'.map (fun q => some q.2))[i]? := by rw [h]
  rw [List.getElem?_map, List.getElem?_map, hi] at h1
  exact lk_mem (Option.some.inj h1)
theorem mw_max : Cond.static Lib.Math.max.name ∈ GW ∧ Cond.initialized "java/lang/Math" ∈ GW ∧ Cond.code Lib.Math.max.name Lib.Math.max.code 2 (some .int) ∈ GW := by
  refine ⟨?_, ?_, ?_⟩ <;> exact all_GW (ws := [_]) (by decide +kernel) _ List.mem_cons_self
theorem mw_min : Cond.static Lib.Math.min.name ∈ GW ∧ Cond.initialized "java/lang/Math" ∈ GW ∧ Cond.code Lib.Math.min.name Lib.Math.min.code 2 (some .int) ∈ GW := by
  refine ⟨?_, ?_, ?_⟩ <;> exact all_GW (ws := [_]) (by decide +kernel) _ List.mem_cons_self
theorem xldcw {k : Kx} {cc : ByteArray} {nL rk mc ms pc cells slots : Nat} {own nm : String} {ret : Option FieldType} {lay : List Kd} {a : Nat → Nat} {x : XS} {L : List (Nat × Value)} {stk : List Value} (hk : Fok k cc nL own ret nm rk mc ms) {idx : Nat} (v : Int32) (d : decode cc pc = .ok (.ldc_w idx, 3)) (hw : Cond.constant own idx v ∈ GW) (kk : Wx k cells slots lay a x (pc + 3) L (.int v :: stk)) : Wx k cells slots lay a x pc L stk := by
  rcases k with ⟨p, e, s, m, args, below, meth, c, Q, A, R, g⟩
  obtain ⟨hx, hb, hml, hown, hts, hr, hlk, hK, hA, hA0, hR, hSg, hnm, hb0⟩ := hk
  intro H locs ls hP hD hS hl
  exact lv_ldcw hx hb hown (hts _ hw) d (kk H locs ls hP hD hS hl)
