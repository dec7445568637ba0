
def inB (i : Int32) (n : Nat) : Bool := decide (¬ (i < 0 ∨ n ≤ i.toNatClampNeg))
theorem inB_v {i : Int32} {n : Nat} (h : inB i n = true) : vp_in i n := by unfold vp_in; exact of_decide_eq_true h
def og {α : Type} (b : Bool) (r : Option α) : Option α := if b then r else none
theorem og_some {α : Type} {b : Bool} {r : Option α} {u : α} (h : og b r = some u) : b = true ∧ r = some u := by
  unfold og at h; split at h
  · exact ⟨by assumption, h⟩
  · cases h
def ob {α β : Type} (q : Option β) (f : β → Option α) : Option α := match q with
  | none => none
  | some v => f v
theorem ob_some {α β : Type} {q : Option β} {f : β → Option α} {u : α} (h : ob q f = some u) : ∃ v, q = some v ∧ f v = some u := by
  unfold ob at h; split at h
  · cases h
  · exact ⟨_, rfl, h⟩
noncomputable def cdec (p : Prop) : Bool := @decide p (Classical.propDecidable p)
theorem cdec_of {p : Prop} (h : cdec p = true) : p := @of_decide_eq_true p (Classical.propDecidable p) h
theorem cdec_t {p : Prop} (h : p) : cdec p = true := @decide_eq_true p (Classical.propDecidable p) h
section WDB
variable {k : Kx} {cc : ByteArray} {nL rk mc ms pc cells slots : Nat} {own nm : String} {ret : Option FieldType} {lay : List Kd} {a : Nat → Nat} {x : XS} {L : List (Nat × Value)} {stk : List Value} {post : Option Value → XS → Prop}
theorem xdconst0 (hk : Fok k cc nL own ret nm rk mc ms) (d : decode cc pc = .ok (.dconst 0, 1)) (kk : Wx k cells slots lay a x (pc + 1) L (.double 0 :: stk)) : Wx k cells slots lay a x pc L stk := by
  rcases k with ⟨p, e, s, m, args, below, meth, c, Q, A, R, g⟩
  obtain ⟨hx, hb, hml, hown, hts, hr, hlk, hK, hA, hA0, hR, hSg, hnm, hb0⟩ := hk
  intro H locs ls hP hD hS hl
  exact lv_dconst0 hx hb d (kk H locs ls hP hD hS hl)
theorem xi2d (hk : Fok k cc nL own ret nm rk mc ms) {v : Int32} (d : decode cc pc = .ok (.i2d, 1)) (kk : Wx k cells slots lay a x (pc + 1) L (.double (FP.i2d v) :: stk)) : Wx k cells slots lay a x pc L (.int v :: stk) := by
  rcases k with ⟨p, e, s, m, args, below, meth, c, Q, A, R, g⟩
  obtain ⟨hx, hb, hml, hown, hts, hr, hlk, hK, hA, hA0, hR, hSg, hnm, hb0⟩ := hk
  intro H locs ls hP hD hS hl
  exact lv_i2d hx hb d (kk H locs ls hP hD hS hl)
theorem xddiv (hk : Fok k cc nL own ret nm rk mc ms) {v w : UInt64} (d : decode cc pc = .ok (.ddiv, 1)) (hne : vf_n64 (FP.ddiv v w)) (kk : Wx k cells slots lay a x (pc + 1) L (.double (FP.ddiv v w) :: stk)) : Wx k cells slots lay a x pc L (.double w :: .double v :: stk) := by
  rcases k with ⟨p, e, s, m, args, below, meth, c, Q, A, R, g⟩
  obtain ⟨hx, hb, hml, hown, hts, hr, hlk, hK, hA, hA0, hR, hSg, hnm, hb0⟩ := hk
  intro H locs ls hP hD hS hl
  exact lv_ddiv hx hb d hne (kk H locs ls hP hD hS hl)
theorem xdret (hk : Fok k cc nL own (some .double) nm rk mc ms) (he : Ends k lay a post mc ms) {v : UInt64} (d : decode cc pc = .ok (.dreturn, 1)) (hc : cells ≤ mc ∧ slots ≤ ms) (hp : post (some (.double v)) x) : Wx k cells slots lay a x pc L [.double v] := by
  rcases k with ⟨p, e, s, m, args, below, meth, c, Q, A, R, g⟩
  obtain ⟨hx, hb, hml, hown, hts, hr, hlk, hK, hA, hA0, hR, hSg, hnm, hb0⟩ := hk
  obtain ⟨rfl, rfl⟩ := he
  intro H locs ls hP hD hS hl
  refine W.widen hc.1 hc.2 ?_
  exact W.dret hx hb hr (fun t ht hW => ⟨⟨_, x, rfl, hp, by rw [ht]; exact hP⟩, hS.F ht⟩) hS.2.2 d hlk
end WDB

