
/-! THE CLAIM OUT OF ONE WALK OF THE LAW'S BODY. Your part is whole_start (and what it stands on); all else here is the same for every law, but numbers. -/
def R_law : String := "FeudBookLaw"
def lw_P (b : Addr) (xs : List Int32) (args : Array Value) (s : State) : Prop := args = #[.ref b] ∧ s.IntsAt b xs ∧ xs.length ≤ 3072 ∧ (Jvm.Cond.and given_1 narrow_1).before args s = true
/-- what a walk over the start with the record d0 says of its end, said of the start itself -/
theorem lw_closed {s t : State} {o : Outcome} {d0 : Drawn} {L : List Loc} {k n : Nat} (hd0 : s.drawn.sameBut d0 lw_cs) (hv : ∃ v, o = .returned v) (hW : (s.setDrawn d0).WarmedH t.vm) (hs : (s.setDrawn d0).sameButNew ({ t with vm := s.vm } : State) L k n) : State.butDraws s t lw_cs (fun t1 => Framed s o t1 L k n) := by
  have h2 : t.drawn = d0 := congrArg State.drawn hs.1
  refine ⟨⟨hv, hW, State.sameButNew.setDrawn hs s.drawn⟩, ?_, by decide⟩
  rw [h2]
  exact hd0
def lw_Q (_ : Array Value) (s : State) (o : Outcome) (t : State) : Prop := o = .returned (some (.int 1)) ∧ State.butDraws s t lw_cs (fun t1 => Framed s o t1 [] 601024 7293034)
def lw_Z (below : List Frame) (a : Array Value) (s : State) : State → Prop := fun t => ∃ o, t.status = .running ∧ Ended t below o ∧ lw_Q a s o t
/-- the law's own end, with 1 on the stack, nothing written that was there before, its room as the claim has it; d0: the record of draws at this point (at the entry s.drawn: begin with 'refine W.base ?_' and 'have hd0 := Drawn.sameBut.refl s.drawn lw_cs') -/
theorem lw_ret {p : Program} {l : Launch} {e : Env} {s : State} {m : MethodId} {below : List Frame} {meth : Method} {c : Code} {b : Nat} {d0 : Drawn} {R : Room} (hd0 : s.drawn.sameBut d0 lw_cs) (hx : p.tables.exec = Jvm.exec) (hb : c.code = code) (hr : meth.sig.returnType = ret) (hlocks : meth.locks = false) {pc : Nat} {H : Heap} {ls : Array Slot} (hdg : decode code pc = .ok (.ireturn, 1)) : W p l e R (s.setDrawn d0) m #[Value.ref b] below meth c H [] 601024 7293034 (lw_Z below #[Value.ref b] s) (F0 m pc ls [.int 1]) := by
  intro T hT X
  obtain ⟨fs, hret, hrun, hended, hW, hframe⟩ := X.leave (v := some (.int 1)) (hlocks := hlocks) (fun h => by rw [hr] at h; cases h)
  have hmeth' : T.vm.method? m = some meth := X.method'
  refine ⟨T.setFrames fs, ?_, .returned (some (.int 1)), hrun, hended, rfl, lw_closed hd0 ⟨_, rfl⟩ hW hframe⟩
  jvm_step X.here [X.here.top, hx, hb, hdg, hmeth', hr, ret, narrow_b1]
  (try refine ⟨rfl, ?_⟩); (try refine ⟨rfl, ?_⟩)
  first | (intro acts; rw [hret _ acts rfl rfl rfl]) | rw [hret _ _ rfl rfl rfl]
  exact Steps.refl _
/-- what holds at the law's entry: the machine, the code, the tables' words (any of lw_tbl by 'hts w (by decide +kernel)'), the script of L ints xs at the cell b, what the Statement gives of the start (any of its parts by flat_of_before) -/
def lw_At (p : Program) (s : State) (m : MethodId) (meth : Method) (c : Code) (b L : Nat) (xs : Nat → Int32) : Prop :=
  p.tables.exec = Jvm.exec ∧ c.code = code ∧ meth.sig.returnType = ret ∧ c.maxLocals = 9 ∧ s.vm.findClass R_law = some m.cls ∧ (∀ w ∈ lw_tbl, w.before #[Value.ref b] s = true) ∧ va_X b L xs s s.heap ∧ b < s.heap.size ∧ meth.locks = false ∧ (Jvm.Cond.and given_1 narrow_1).before #[Value.ref b] s = true

/-! The law's walk: its own rows -/
theorem stand_room {p : Program} {l : Launch} {e : Env} {R R' : Room} {s : State} {m : MethodId} {args : Array Value} {below : List Frame} {meth : Method} {c : Code} {T : State} {locs : List Loc} {cells slots : Nat} (X : Stand p l e R s m args below meth c T locs cells slots) (hf : R'.frames ≤ R.frames) (hl : R'.locals ≤ R.locals) (hc : R'.cells ≤ R.cells) (hs : R'.slots ≤ R.slots) : Stand p l e R' s m args below meth c T locs cells slots := by
  refine ⟨X.admits, X.cas, X.clock, X.frames, ?_, X.hears, X.method, X.code, X.here, X.tail, X.warmed, X.limits, X.bytes, X.same⟩
  have h := X.room
  simp only [State.hasRoom, Bool.and_eq_true, decide_eq_true_eq] at h ⊢
  obtain ⟨⟨⟨⟨h1, h2, h3, h4, h5, h6⟩, h7⟩, h8⟩, h9⟩ := h
  exact ⟨⟨⟨⟨by omega, by omega, by omega, by omega, by omega, h6⟩, by omega⟩, by omega⟩, h9⟩
theorem W_room {p : Program} {l : Launch} {e : Env} {R R' : Room} {s : State} {m : MethodId} {args : Array Value} {below : List Frame} {meth : Method} {c : Code} {H : Heap} {locs : List Loc} {cells slots : Nat} {Q : State → Prop} {g : JFrame} (hf : R'.frames ≤ R.frames) (hl : R'.locals ≤ R.locals) (hc : R'.cells ≤ R.cells) (hs : R'.slots ≤ R.slots) (kk : W p l e R' s m args below meth c H locs cells slots Q g) : W p l e R s m args below meth c H locs cells slots Q g :=
  fun T hT X => kk T hT (stand_room X hf hl hc hs)
def ScK (k : Kx) (b L : Nat) (xs : Nat → Int32) : Prop := match k with
  | (p, e, s, m, args, below, meth, c, Q, A, R, g) => va_X b L xs s s.heap ∧ b < s.heap.size ∧ ¬ A b
def EndL (k : Kx) (b : Nat) : Prop := match k with
  | (p, e, s, m, args, below, meth, c, Q, A, R, g) => args = #[Value.ref b] ∧ Q = lw_Z below #[Value.ref b] s ∧ A = fun q => s.heap.size ≤ q
section WL
variable {k : Kx} {cc : ByteArray} {nL rk mc ms pc cells slots : Nat} {own nm : String} {rety : Option FieldType} {lay lay1 : List Kd} {a : Nat → Nat} {x : XS} {L : List (Nat × Value)} {stk st0 : List Value} {post : Option Value → XS → Prop}
theorem xsld (hk : Fok k cc nL own rety nm rk mc ms) {b M : Nat} {xs : Nat → Int32} (hsc : ScK k b M xs) {i : Int32} (d : decode cc pc = .ok (.iaload, 1)) (hi : vp_in i M) (kk : Wx k cells slots lay a x (pc + 1) L (.int (xs i.toNatClampNeg) :: stk)) : Wx k cells slots lay a x pc L (.int i :: .ref b :: stk) := by
  rcases k with ⟨p, e, s, m, args, below, meth, c, Q, A, R, g⟩
  obtain ⟨hx, hb, hml, hown, hts, hr, hlk, hK, hA, hA0, hR, hSg, hnm, hb0⟩ := hk
  intro H locs ls hP hD hS hl
  exact va_sld hx hb hsc.1 hsc.2.1 hsc.2.2 hS hi d (kk H locs ls hP hD hS hl)
theorem xslen (hk : Fok k cc nL own rety nm rk mc ms) {b M : Nat} {xs : Nat → Int32} (hsc : ScK k b M xs) (d : decode cc pc = .ok (.arraylength, 1)) (kk : Wx k cells slots lay a x (pc + 1) L (.int (Int32.ofNat M) :: stk)) : Wx k cells slots lay a x pc L (.ref b :: stk) := by
  rcases k with ⟨p, e, s, m, args, below, meth, c, Q, A, R, g⟩
  obtain ⟨hx, hb, hml, hown, hts, hr, hlk, hK, hA, hA0, hR, hSg, hnm, hb0⟩ := hk
  intro H locs ls hP hD hS hl
  exact va_slen hx hb hsc.1 hsc.2.1 hsc.2.2 hS d (kk H locs ls hP hD hS hl)
theorem xdstore (hk : Fok k cc nL own rety nm rk mc ms) {i : Nat} {v : UInt64} (d : decode cc pc = .ok (.dstore i, 2)) (hi : (i : Nat) + 1 < nL) (kk : Wx k cells slots lay a x (pc + 2) (st2 L i (.double v)) stk) : Wx k cells slots lay a x pc L (.double v :: stk) := by
  rcases k with ⟨p, e, s, m, args, below, meth, c, Q, A, R, g⟩
  obtain ⟨hx, hb, hml, hown, hts, hr, hlk, hK, hA, hA0, hR, hSg, hnm, hb0⟩ := hk
  intro H locs ls hP hD hS hl
  exact lv_dstore hx hb d hl (by rw [hml]; exact hi) rfl (fun ls' hl' => kk H locs ls' hP hD hS (has_mono hl' (st2_mem _ _ _)))
theorem xdload (hk : Fok k cc nL own rety nm rk mc ms) {i : Nat} {v : UInt64} (d : decode cc pc = .ok (.dload i, 2)) (hv : lk L i = some (.double v)) (kk : Wx k cells slots lay a x (pc + 2) L (.double v :: stk)) : Wx k cells slots lay a x pc L (stk) := by
  rcases k with ⟨p, e, s, m, args, below, meth, c, Q, A, R, g⟩
  obtain ⟨hx, hb, hml, hown, hts, hr, hlk, hK, hA, hA0, hR, hSg, hnm, hb0⟩ := hk
  intro H locs ls hP hD hS hl
  exact lv_dload hx hb d (lk_at hl hv) (kk H locs ls hP hD hS hl)
theorem xdcmp (hk : Fok k cc nL own rety nm rk mc ms) {v w : UInt64} {op : CmpOp} (d : decode cc pc = .ok (.dcmp op, 1)) (kk : Wx k cells slots lay a x (pc + 1) L (.int (Op.cmpValue (FP.dcmp v w) op) :: stk)) : Wx k cells slots lay a x pc L (.double w :: .double v :: stk) := by
  rcases k with ⟨p, e, s, m, args, below, meth, c, Q, A, R, g⟩
  obtain ⟨hx, hb, hml, hown, hts, hr, hlk, hK, hA, hA0, hR, hSg, hnm, hb0⟩ := hk
  intro H locs ls hP hD hS hl
  exact lv_dcmp hx hb d (kk H locs ls hP hD hS hl)
/-- the law's own end -/
theorem xlaw1 (hk : Fok k code nL own ret nm rk mc ms) {b : Nat} (he : EndL k b) (d : decode code pc = .ok (.ireturn, 1)) (hc : cells ≤ 601024 ∧ slots ≤ 7293034) : Wx k cells slots lay a x pc L [.int 1] := by
  rcases k with ⟨p, e, s, m, args, below, meth, c, Q, A, R, g⟩
  obtain ⟨hx, hb, hml, hown, hts, hr, hlk, hK, hA, hA0, hR, hSg, hnm, hb0⟩ := hk
  obtain ⟨rfl, rfl, rfl⟩ := he
  intro H locs ls hP hD hS hl
  refine va_forget (fun q hq => hS.2.2 q hq) (W.widen hc.1 hc.2 (W.base ?_))
  exact lw_ret (Drawn.sameBut.refl s.drawn lw_cs) hx hb hr hlk d
theorem xmix_self {off n : Nat} {x : XS} : xmix off n (pul off x) x = x := by
  unfold xmix pul
  apply Prod.ext
  · funext i j
    by_cases h : off ≤ i ∧ i < off + n
    · simp only [if_pos h]; rw [Nat.add_sub_cancel' h.1]
    · simp only [if_neg h]
  · funext i j
    by_cases h : off ≤ i ∧ i < off + n
    · simp only [if_pos h]; rw [Nat.add_sub_cancel' h.1]
    · simp only [if_neg h]
end WL
/-- the law's layout: the class, the row out, the reference -/
def LL : List Kd := sufL LFO LM
theorem sub_F : Sub 0 LF LL = true := by decide +kernel
theorem sub_FO : Sub 0 LFO LL = true := by decide +kernel
theorem sub_M : Sub 49 LM LL = true := by decide +kernel
theorem fr_LFO : okR LFO (fun j => decide (j < LFO.length)) = true := by decide +kernel
theorem pul49 {n : Nat} (hn : n ≤ 49) {x y : XS} : pul 49 (xmix 0 n y x) = pul 49 x := by
  unfold pul xmix
  apply Prod.ext <;> (funext i j; simp only [if_neg (show ¬ (0 ≤ 49 + i ∧ 49 + i < 0 + n) by omega)])
def cgF (x y : XS) : Prop := ∀ q, q < 48 → ∀ k, y.1 q k = x.1 q k ∧ y.2 q k = x.2 q k
def cgM (x y : XS) : Prop := ∀ q, q < 21 → ∀ k, y.1 q k = x.1 q k ∧ y.2 q k = x.2 q k
/-- the world behind a caught call and the reference's: xa of the class, z of the reference -/
theorem cg_lawF {x xa y9 z : XS} (h : ∀ q, q < 48 → ∀ k, y9.1 q k = xa.1 q k ∧ y9.2 q k = xa.2 q k) {n : Nat} (hn : 48 ≤ n ∧ n ≤ 49) : cgF xa (xmix 49 21 z (xmix 0 n y9 x)) := by
  intro q hq k
  unfold xmix
  simp only [if_neg (show ¬ (49 ≤ q ∧ q < 49 + 21) by omega), if_pos (show 0 ≤ q ∧ q < 0 + n by omega), Nat.sub_zero]
  exact h q hq k
theorem cg_lawM {x z : XS} : cgM z (pul 49 (xmix 49 21 z x)) := by
  intro q hq k
  unfold pul xmix
  simp only [if_pos (show 49 ≤ 49 + q ∧ 49 + q < 49 + 21 by omega), Nat.add_sub_cancel_left, and_self]
theorem mix48 {x xa : XS} : ∀ q, q < 48 → ∀ k, (xmix 0 48 xa x).1 q k = xa.1 q k ∧ (xmix 0 48 xa x).2 q k = xa.2 q k := by
  intro q hq k
  unfold xmix
  simp only [if_pos (show 0 ≤ q ∧ q < 0 + 48 by omega), Nat.sub_zero, and_self]
theorem mix48o {x xa : XS} {v : Int64} : ∀ q, q < 48 → ∀ k, (setL (xmix 0 48 xa x) 48 0 v).1 q k = xa.1 q k ∧ (setL (xmix 0 48 xa x) 48 0 v).2 q k = xa.2 q k := by
  intro q hq k
  have h := mix48 (x := x) (xa := xa) q hq k
  refine ⟨h.1, ?_⟩
  rw [← h.2]
  exact if_neg (by omega)
theorem out_at {x y z : XS} {v : Int64} : (xmix 49 21 z (xmix 0 49 (setL y 48 0 v) x)).2 48 0 = v := by
  unfold xmix setL
  simp only [if_neg (show ¬ (49 ≤ 48 ∧ 48 < 49 + 21) by omega), if_pos (show 0 ≤ 48 ∧ 48 < 0 + 49 by omega), Nat.sub_zero, and_self, if_true]
theorem thr_at {x z : XS} : (pul 49 (xmix 49 21 z x)).1 0 0 = z.1 0 0 := (cg_lawM 0 (by decide) 0).1
/-- what is to be shown of a call: class and reference answer alike, and I holds behind it -/
def AgT (I : XS → XS → Prop) (code : String → Int32) (cv : Int32 → Int64) (eset : String → Prop) (f : XS → Option RT) (g : XS → Option (Int32 × XS)) : Prop := ∀ x z : XS, I x z →
  (∃ (E : String) (x1 : XS) (w : Int32 × XS), f x = some (.inl (E, x1)) ∧ g z = some w ∧ w.2.1 0 0 = code E ∧ eset E ∧ I x1 w.2) ∨
  (∃ (v : Int32) (x1 : XS) (w : Int32 × XS), f x = some (.inr (some (.int v), x1)) ∧ g z = some w ∧ w.2.1 0 0 = 0 ∧ cv v = cv w.1 ∧ I x1 w.2)
def AgN {α : Type} (I : XS → XS → Prop) (f g : XS → Option (α × XS)) : Prop := ∀ x z : XS, I x z → ∃ (v : α) (x1 z1 : XS), f x = some (v, x1) ∧ g z = some (v, z1) ∧ I x1 z1
def mb (g : XS → Option (Bool × XS)) (z : XS) : Option (Int32 × XS) := match g z with
  | none => none
  | some u => some (b2i u.1, u.2)

