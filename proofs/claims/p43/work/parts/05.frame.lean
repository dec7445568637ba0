/-! A typed world: cells by a fixed layout, all numbers in one value; a walk (Wx) over it with all that stays in one context -/
abbrev Kd : Type := (Nat × List Nat) ⊕ (Nat × Nat)
abbrev XS : Type := (Nat → Nat → Int32) × (Nat → Nat → Int64)
def setI (x : XS) (q k : Nat) (v : Int32) : XS := (fun i j => if i = q ∧ j = k then v else x.1 i j, x.2)
def setL (x : XS) (q k : Nat) (v : Int64) : XS := (x.1, fun i j => if i = q ∧ j = k then v else x.2 i j)
/-- a field: 0 an int, 1 a long, 2 null, j + 3 the cell j -/
def fval (a : Nat → Nat) (x : XS) (q k : Nat) : Nat → Value
  | 0 => .int (x.1 q k)
  | 1 => .long (x.2 q k)
  | 2 => .null
  | j + 3 => .ref (a j)
def flist (a : Nat → Nat) (x : XS) (q : Nat) (ft : List Nat) : List Value := (List.range ft.length).map (fun k => fval a x q k (ft.getD k 0))
/-- places of an array of references: null, or the cell j -/
def rfN (a : Nat → Nat) : Nat → Option Nat
  | 0 => none
  | 1 => none
  | 2 => none
  | j + 3 => some (a j)
/-- from 100 on: an array of references, its class T (ci - 100) -/
def cellOf (T : Nat → ClassId) (a : Nat → Nat) (x : XS) (q : Nat) : Kd → va_E
  | .inl o => if o.1 < 100 then .inr (o.1, flist a x q o.2) else .inl (T (o.1 - 100), o.2.length, .inr (.inr (.inr (.inr (fun j => rfN a (o.2.getD j 2))))))
  | .inr (1, n) => .inl (T 1, n, .inr (.inl (fun j => x.2 q j)))
  | .inr (c, n) => .inl (T c, n, .inl (fun j => x.1 q j))
def wl (T : Nat → ClassId) (lay : List Kd) (a : Nat → Nat) (x : XS) : va_W := (List.range lay.length).map (fun q => (a q, cellOf T a x q (lay.getD q (.inr (0, 0)))))
theorem wl_get {T : Nat → ClassId} {lay : List Kd} {a : Nat → Nat} {x : XS} {q : Nat} {kd : Kd} (h : lay[q]? = some kd) : (wl T lay a x)[q]? = some (a q, cellOf T a x q kd) := by
  obtain ⟨hl, rfl⟩ := List.getElem?_eq_some_iff.mp h
  simp [wl, hl, List.getD]
theorem wl_some {T : Nat → ClassId} {lay : List Kd} {a : Nat → Nat} {x : XS} {q : Nat} {e : Nat × va_E} (h : (wl T lay a x)[q]? = some e) : ∃ kd, lay[q]? = some kd ∧ e = (a q, cellOf T a x q kd) := by
  have hl : q < lay.length := by have := (List.getElem?_eq_some_iff.mp h).1; simpa [wl] using this
  refine ⟨lay[q], List.getElem?_eq_getElem hl, ?_⟩
  have h2 := wl_get (T := T) (a := a) (x := x) (List.getElem?_eq_getElem hl)
  rw [h2] at h
  exact (Option.some.inj h).symm
theorem vw_lt {ci : Nat} {r : vw_C} (h : vwCl[ci]? = some r) : ci < 100 := by
  have := (List.getElem?_eq_some_iff.mp h).1
  have e : vwCl.length = 12 := rfl
  omega
theorem cell_o {T : Nat → ClassId} {a : Nat → Nat} {x : XS} {q ci : Nat} {ft : List Nat} (h : ci < 100) : cellOf T a x q (.inl (ci, ft)) = .inr (ci, flist a x q ft) := if_pos h
theorem cell_r {T : Nat → ClassId} {a : Nat → Nat} {x : XS} {q t : Nat} {ft : List Nat} : cellOf T a x q (.inl (100 + t, ft)) = .inl (T t, ft.length, .inr (.inr (.inr (.inr (fun j => rfN a (ft.getD j 2)))))) := by
  show (if 100 + t < 100 then _ else _) = _
  rw [if_neg (by omega), Nat.add_sub_cancel_left]
theorem wl_getO {T : Nat → ClassId} {lay : List Kd} {a : Nat → Nat} {x : XS} {q ci : Nat} {ft : List Nat} {r : vw_C} (h : lay[q]? = some (.inl (ci, ft))) (hc : vwCl[ci]? = some r) : (wl T lay a x)[q]? = some (a q, .inr (ci, flist a x q ft)) := by
  rw [wl_get h, cell_o (vw_lt hc)]
theorem wl_getR {T : Nat → ClassId} {lay : List Kd} {a : Nat → Nat} {x : XS} {q t : Nat} {ft : List Nat} (h : lay[q]? = some (.inl (100 + t, ft))) : (wl T lay a x)[q]? = some (a q, .inl (T t, ft.length, .inr (.inr (.inr (.inr (fun j => rfN a (ft.getD j 2))))))) := by
  rw [wl_get h, cell_r]
theorem wl_len (T : Nat → ClassId) (lay : List Kd) (a : Nat → Nat) (x : XS) : (wl T lay a x).length = lay.length := by simp [wl]
theorem flist_get {a : Nat → Nat} {x : XS} {q k t : Nat} {ft : List Nat} (h : ft[k]? = some t) : (flist a x q ft)[k]? = some (fval a x q k t) := by
  obtain ⟨hl, rfl⟩ := List.getElem?_eq_some_iff.mp h
  simp [flist, hl, List.getD]
theorem flist_len (a : Nat → Nat) (x : XS) (q : Nat) (ft : List Nat) : (flist a x q ft).length = ft.length := by simp [flist]
theorem wl_set {T : Nat → ClassId} {lay : List Kd} {a : Nat → Nat} {x x' : XS} {q : Nat} {kd : Kd} {e : va_E} (h : lay[q]? = some kd) (he : cellOf T a x' q kd = e) (ho : ∀ i kd', i ≠ q → lay[i]? = some kd' → cellOf T a x' i kd' = cellOf T a x i kd') : (wl T lay a x).set q (a q, e) = wl T lay a x' := by
  subst he
  apply List.ext_getElem?
  intro i
  by_cases hi : i < lay.length
  · have hg := List.getElem?_eq_getElem hi
    by_cases hq : i = q
    · subst hq
      rw [List.getElem?_set_self (by rw [wl_len]; exact hi), wl_get h]
    · rw [List.getElem?_set_ne (fun z => hq z.symm), wl_get hg, wl_get hg, ho i _ hq hg]
  · rw [List.getElem?_eq_none (by simp [wl_len]; omega), List.getElem?_eq_none (by simp [wl_len]; omega)]
theorem cell_other {T : Nat → ClassId} {a : Nat → Nat} {x x' : XS} {i : Nat} (h1 : ∀ k, x'.1 i k = x.1 i k) (h2 : ∀ k, x'.2 i k = x.2 i k) (kd : Kd) : cellOf T a x' i kd = cellOf T a x i kd := by
  have hf : ∀ ft, flist a x' i ft = flist a x i ft := by
    intro ft
    refine List.map_congr_left fun k _ => ?_
    generalize ft.getD k 0 = t
    match t with
    | 0 => simp [fval, h1]
    | 1 => simp [fval, h2]
    | 2 => rfl
    | j + 3 => rfl
  match kd with
  | .inl o => simp only [cellOf, hf]
  | .inr (0, n) => simp [cellOf, h1]
  | .inr (1, n) => simp [cellOf, h2]
  | .inr (c + 2, n) => simp [cellOf, h1]
theorem flist_setI {a : Nat → Nat} {x : XS} {q k : Nat} {v : Int32} {ft : List Nat} (h : ft[k]? = some 0) : (flist a x q ft).set k (.int v) = flist a (setI x q k v) q ft := by
  apply List.ext_getElem?
  intro i
  by_cases hi : i < ft.length
  · have hg := List.getElem?_eq_getElem hi
    by_cases hk : i = k
    · subst hk
      rw [List.getElem?_set_self (by rw [flist_len]; exact hi), flist_get h]
      simp [fval, setI]
    · rw [List.getElem?_set_ne (fun z => hk z.symm), flist_get hg, flist_get hg]
      congr 1
      generalize ft[i] = t
      match t with
      | 0 => simp [fval, setI, hk]
      | 1 => simp [fval, setI]
      | 2 => rfl
      | j + 3 => rfl
  · rw [List.getElem?_eq_none (by simp [flist_len]; omega), List.getElem?_eq_none (by simp [flist_len]; omega)]
theorem flist_setL {a : Nat → Nat} {x : XS} {q k : Nat} {v : Int64} {ft : List Nat} (h : ft[k]? = some 1) : (flist a x q ft).set k (.long v) = flist a (setL x q k v) q ft := by
  apply List.ext_getElem?
  intro i
  by_cases hi : i < ft.length
  · have hg := List.getElem?_eq_getElem hi
    by_cases hk : i = k
    · subst hk
      rw [List.getElem?_set_self (by rw [flist_len]; exact hi), flist_get h]
      simp [fval, setL]
    · rw [List.getElem?_set_ne (fun z => hk z.symm), flist_get hg, flist_get hg]
      congr 1
      generalize ft[i] = t
      match t with
      | 0 => simp [fval, setL]
      | 1 => simp [fval, setL, hk]
      | 2 => rfl
      | j + 3 => rfl
  · rw [List.getElem?_eq_none (by simp [flist_len]; omega), List.getElem?_eq_none (by simp [flist_len]; omega)]
theorem flist_setR {a : Nat → Nat} {x : XS} {q k j : Nat} {ft : List Nat} (h : ft[k]? = some (j + 3)) : (flist a x q ft).set k (.ref (a j)) = flist a x q ft := by
  apply List.ext_getElem?
  intro i
  by_cases hi : i < ft.length
  · by_cases hk : i = k
    · subst hk
      rw [List.getElem?_set_self (by rw [flist_len]; exact hi), flist_get h]
      rfl
    · rw [List.getElem?_set_ne (fun z => hk z.symm)]
  · rw [List.getElem?_eq_none (by simp [flist_len]; omega), List.getElem?_eq_none (by simp [flist_len]; omega)]
theorem wl_setI {T : Nat → ClassId} {lay : List Kd} {a : Nat → Nat} {x : XS} {q k ci : Nat} {v : Int32} {ft : List Nat} (hc : ci < 100) (h : lay[q]? = some (.inl (ci, ft))) (hf : ft[k]? = some 0) : (wl T lay a x).set q (a q, .inr (ci, (flist a x q ft).set k (.int v))) = wl T lay a (setI x q k v) :=
  wl_set h (by rw [flist_setI hf]; exact cell_o hc) (fun i kd' hi _ => cell_other (x' := setI x q _ v) (x := x) (fun k' => by simp [setI, hi]) (fun _ => rfl) kd')
theorem wl_setL {T : Nat → ClassId} {lay : List Kd} {a : Nat → Nat} {x : XS} {q k ci : Nat} {v : Int64} {ft : List Nat} (hc : ci < 100) (h : lay[q]? = some (.inl (ci, ft))) (hf : ft[k]? = some 1) : (wl T lay a x).set q (a q, .inr (ci, (flist a x q ft).set k (.long v))) = wl T lay a (setL x q k v) :=
  wl_set h (by rw [flist_setL hf]; exact cell_o hc) (fun i kd' hi _ => cell_other (x' := setL x q _ v) (x := x) (fun _ => rfl) (fun k' => by simp [setL, hi]) kd')
theorem wl_setR {T : Nat → ClassId} {lay : List Kd} {a : Nat → Nat} {x : XS} {q k ci j : Nat} {ft : List Nat} (hc : ci < 100) (h : lay[q]? = some (.inl (ci, ft))) (hf : ft[k]? = some (j + 3)) : (wl T lay a x).set q (a q, .inr (ci, (flist a x q ft).set k (.ref (a j)))) = wl T lay a x :=
  wl_set h (by rw [flist_setR hf]; exact cell_o hc) (fun _ _ _ _ => rfl)
theorem wl_setAI {T : Nat → ClassId} {lay : List Kd} {a : Nat → Nat} {x : XS} {q n i c : Nat} {v : Int32} (h : lay[q]? = some (.inr (c, n))) (hc : c ≠ 1) : (wl T lay a x).set q (a q, .inl (T c, n, .inl (upd (fun j => x.1 q j) i v))) = wl T lay a (setI x q i v) := by
  refine wl_set h ?_ (fun i kd' hi _ => cell_other (x' := setI x q _ v) (x := x) (fun k' => by simp [setI, hi]) (fun _ => rfl) kd')
  have e : (fun j => (setI x q i v).1 q j) = upd (fun j => x.1 q j) i v := by funext j; simp [setI, upd]
  match c, hc with
  | 0, _ => simp only [cellOf, e]
  | c + 2, _ => simp only [cellOf, e]
theorem wl_setAL {T : Nat → ClassId} {lay : List Kd} {a : Nat → Nat} {x : XS} {q n i : Nat} {v : Int64} (h : lay[q]? = some (.inr (1, n))) : (wl T lay a x).set q (a q, .inl (T 1, n, .inr (.inl (vp_updL (fun j => x.2 q j) i v)))) = wl T lay a (setL x q i v) := by
  refine wl_set h ?_ (fun i kd' hi _ => cell_other (x' := setL x q _ v) (x := x) (fun _ => rfl) (fun k' => by simp [setL, hi]) kd')
  have e : (fun j => (setL x q i v).2 q j) = vp_updL (fun j => x.2 q j) i v := by funext j; simp [setL, vp_updL]
  simp only [cellOf, e]
/-- the tables' words that hold wherever tables hold -/
def GW : List Cond := lw_tbl.filter goodWord
theorem gw_mem {w : Cond} (n : Nat) (h : tables_1[n]? = some w) (hg : goodWord w = true) : w ∈ GW := List.mem_filter.mpr ⟨List.mem_append_right _ (List.mem_of_getElem? h), hg⟩
theorem gw_sel {w : Cond} (n : Nat) (h : (k2_sels lw_privs)[n]? = some w) (hg : goodWord w = true) : w ∈ GW := List.mem_filter.mpr ⟨List.mem_append_left _ (List.mem_of_getElem? h), hg⟩
def isNest : Cond → Bool
  | .fieldLinkNest _ _ _ _ _ _ => true
  | .methodLinkNest _ _ _ _ => true
  | .castable _ _ => true
  | .declares _ => true
  | .privateMethod _ => true
  | _ => false
def NW : List Cond := tables_1.filter isNest
theorem nw_mem {w : Cond} (n : Nat) (h : tables_1[n]? = some w) (hg : isNest w = true) : w ∈ NW := List.mem_filter.mpr ⟨List.mem_of_getElem? h, hg⟩
theorem nest_tabs {w : Cond} (h : isNest w = true) : w.onTables = true := by
  cases w <;> first | rfl | (simp [isNest] at h)
theorem nest_warmP {y : MethodName} {s U : State} (hW : s.WarmedH U.vm) (hZ : va_Nw (.privateMethod y) s) : va_Nw (.privateMethod y) U := va_tabs rfl (rfl : (s.setVm U.vm).vm = U.vm) (by rw [Cond.privateMethod_setVm hW.alike]; exact hZ)
theorem nest_warm {w : Cond} (h : isNest w = true) {s U : State} (hW : s.WarmedH U.vm) (hZ : va_Nw w s) : va_Nw w U := by
  cases w <;> first | exact va_Nw.warmF hW hZ | exact va_Nw.warmM hW hZ | exact va_Nw.warmC hW hZ | exact va_Nw.warmD hW hZ | exact nest_warmP hW hZ | (simp [isNest] at h)
/-- what stays through the whole run: the launch, the classes' numbers, the first address of the run, places of static arrays -/
abbrev Gx : Type := Launch × va_G × (Nat → ClassId) × Nat × (Nat → Nat)
def ridesV (j : Nat) : Value := .long (([-6148914691236517206, -3689348814741910324, -1085102592571150096, -71777214294589696, -281470681808896, -4294967296] : List Int64).getD j 0)
/-- the texts: 0 .. 28 the law's own, 29 the keywords, 30 .. the texts of throws -/
def TXT : List (String × Nat × String) := [
  ("FeudBookLaw", 35, "f"),
  ("FeudBookLaw", 44, " rides"),
  ("FeudBookLaw", 46, " stays"),
  ("FeudBookLaw", 52, " s"),
  ("FeudBookLaw", 54, " "),
  ("FeudBookLaw", 56, "promise"),
  ("FeudBookLaw", 58, "if "),
  ("FeudBookLaw", 66, " then "),
  ("FeudBookLaw", 68, "pact"),
  ("FeudBookLaw", 70, "either "),
  ("FeudBookLaw", 72, " or "),
  ("FeudBookLaw", 74, "feud"),
  ("FeudBookLaw", 76, " with "),
  ("FeudBookLaw", 78, "oath"),
  ("FeudBookLaw", 80, ""),
  ("FeudBookLaw", 82, " when day-day/3*3="),
  ("FeudBookLaw", 84, " when possible "),
  ("FeudBookLaw", 86, " when not stands s"),
  ("FeudBookLaw", 88, " or standing<"),
  ("FeudBookLaw", 90, " when follows "),
  ("FeudBookLaw", 92, " from "),
  ("FeudBookLaw", 94, " and parts>"),
  ("FeudBookLaw", 96, " when [peaces<=4*"),
  ("FeudBookLaw", 98, "]"),
  ("FeudBookLaw", 115, "family f"),
  ("FeudBookLaw", 117, ";"),
  ("FeudBookLaw", 123, ";\n"),
  ("FeudBookLaw", 133, "break s"),
  ("FeudBookLaw", 135, "renew s"),
  ("FeudBook$Tokens", 29, "family promise if then pact either or feud with oath rides stays break renew when day standing parts peaces possible stands follows from not and min max"),
  ("FeudBook", 86, "the tape would be too long"),
  ("FeudBook", 97, "the tape does not have so many bytes"),
  ("FeudBook", 173, "the claim does not follow"),
  ("FeudBook", 192, "there is no such family"),
  ("FeudBook", 198, "there is a peace"),
  ("FeudBook", 200, "the statement stands"),
  ("FeudBook", 219, "there is no family"),
  ("FeudBook", 245, "there is no such statement"),
  ("FeudBook", 247, "the statement does not stand"),
  ("FeudBook", 249, "there is no such claim"),
  ("FeudBook", 251, "there is no peace"),
  ("FeudBook", 253, "days have to be 1 to 30")]
def txt (i : Nat) : String × Nat × String := TXT.getD i ("", 0, "")
def txB (i : Nat) : List Int32 := (txt i).2.2.toList.map (fun c => Int32.ofNat c.toNat)
/-- a text at q: its bytes at v -/
def sC (q v : Nat) (bs : List Int32) (A : Nat → Prop) (U : State) (H : Heap) : Prop := va_O "java/lang/String" q A U H ∧ va_OF "java/lang/String" "coder" "B" (.int 0) q A U H ∧ va_OF "java/lang/String" "value" "[B" (.ref v) q A U H ∧ va_T .byte v bs.length (fun j => .int (bs.getD j 0)) A U H
theorem sC.moved {q v : Nat} {bs : List Int32} {A : Nat → Prop} {u U : State} {H : Heap} (hvm : u.vm.Alike U.vm) (h : sC q v bs A u H) : sC q v bs A U H := ⟨va_O.moved hvm h.1, va_OF.moved hvm h.2.1, va_OF.moved hvm h.2.2.1, va_T.moved hvm h.2.2.2⟩
theorem sC.kept {q v : Nat} {bs : List Int32} {A : Nat → Prop} {U : State} {H H1 : Heap} (h : sC q v bs A U H) (hq : ∀ a : Nat, a < H.size → ¬ A a → H1[a]? = H[a]?) : sC q v bs A U H1 := ⟨h.1.kept hq, h.2.1.kept hq, h.2.2.1.kept hq, h.2.2.2.kept hq⟩
theorem sC.narrow {q v : Nat} {bs : List Int32} {A B : Nat → Prop} {U : State} {H : Heap} (h : sC q v bs A U H) (hAB : ∀ q, B q → A q) : sC q v bs B U H := ⟨h.1.narrow hAB, h.2.1.narrow hAB, h.2.2.1.narrow hAB, h.2.2.2.narrow hAB⟩
/-- the texts, the statics that throws and texts need; sa: 0 RIDES_IN_WORD, 1 DigitOnes, 2 DigitTens, 10 + i the text i, 60 + i its bytes -/
def digO (j : Nat) : Value := .int (Int32.ofNat (48 + j % 10))
def digT (j : Nat) : Value := .int (Int32.ofNat (48 + j / 10))
def Sx (sa : Nat → Nat) (A : Nat → Prop) (U : State) (H : Heap) : Prop :=
  ((va_Z RJ6 "DigitOnes" "[B" (.ref (sa 1)) A U H ∧ va_T .byte (sa 1) 100 digO A U H) ∧ (va_Z RJ6 "DigitTens" "[B" (.ref (sa 2)) A U H ∧ va_T .byte (sa 2) 100 digT A U H) ∧ va_Z "java/lang/String" "COMPACT_STRINGS" "Z" (.int 1) A U H ∧ va_Zq "jdk/internal/util/Preconditions" "SIOOBE_FORMATTER" "Ljava/util/function/BiFunction;" A U H) ∧
  (∀ i, i < 30 → sC (sa (10 + i)) (sa (60 + i)) (txB i) A U H) ∧ (∀ i, i < 42 → vk_R (txt i).1 (txt i).2.1 (txt i).2.2 (sa (10 + i)) U) ∧
  vx_Zq Bundle.tN "UNASSIGNED_STACK" Bundle.steD A U H ∧ vx_Zq Bundle.tN "SUPPRESSED_SENTINEL" Bundle.listD A U H
theorem Sx.same {sa : Nat → Nat} {A : Nat → Prop} {u U : State} {H : Heap} (hv : u.vm = U.vm) (h : Sx sa A u H) : Sx sa A U H :=
  have hA : u.vm.Alike U.vm := by rw [hv]; exact Vm.Alike.refl _
  ⟨⟨⟨va_Z.moved hA h.1.1.1, va_T.moved hA h.1.1.2⟩, ⟨va_Z.moved hA h.1.2.1.1, va_T.moved hA h.1.2.1.2⟩, va_Z.moved hA h.1.2.2.1, va_Zq.moved hA h.1.2.2.2⟩, fun i hi => (h.2.1 i hi).moved hA, fun i hi => vk_R.same hv.symm (h.2.2.1 i hi), vx_Zq.moved hA h.2.2.2.1, vx_Zq.moved hA h.2.2.2.2⟩
theorem Sx.warm {sa : Nat → Nat} {A : Nat → Prop} {u U : State} {H : Heap} (hW : u.WarmedH U.vm) (h : Sx sa A u H) : Sx sa A U H :=
  ⟨⟨⟨va_Z.moved hW.alike h.1.1.1, va_T.moved hW.alike h.1.1.2⟩, ⟨va_Z.moved hW.alike h.1.2.1.1, va_T.moved hW.alike h.1.2.1.2⟩, va_Z.moved hW.alike h.1.2.2.1, va_Zq.moved hW.alike h.1.2.2.2⟩, fun i hi => (h.2.1 i hi).moved hW.alike, fun i hi => vk_R.warm hW (h.2.2.1 i hi), vx_Zq.moved hW.alike h.2.2.2.1, vx_Zq.moved hW.alike h.2.2.2.2⟩
theorem Sx.kept {sa : Nat → Nat} {A : Nat → Prop} {U : State} {H H1 : Heap} (h : Sx sa A U H) (hq : ∀ a : Nat, a < H.size → ¬ A a → H1[a]? = H[a]?) : Sx sa A U H1 :=
  ⟨⟨⟨h.1.1.1.kept hq, h.1.1.2.kept hq⟩, ⟨h.1.2.1.1.kept hq, h.1.2.1.2.kept hq⟩, h.1.2.2.1.kept hq, h.1.2.2.2.kept hq⟩, fun i hi => (h.2.1 i hi).kept hq, h.2.2.1, h.2.2.2.1.kept hq, h.2.2.2.2.kept hq⟩
theorem Sx.narrow {sa : Nat → Nat} {A B : Nat → Prop} {U : State} {H : Heap} (h : Sx sa A U H) (hAB : ∀ q, B q → A q) : Sx sa B U H :=
  ⟨⟨⟨h.1.1.1.narrow hAB, h.1.1.2.narrow hAB⟩, ⟨h.1.2.1.1.narrow hAB, h.1.2.1.2.narrow hAB⟩, h.1.2.2.1.narrow hAB, h.1.2.2.2.narrow hAB⟩, fun i hi => (h.2.1 i hi).narrow hAB, h.2.2.1, h.2.2.2.1.narrow hAB, h.2.2.2.2.narrow hAB⟩
/-- the class of int[][]: its component is the class of int[] -/
def AA (g : Gx) (U : State) : Prop := (Cond.arrayOver (.array .int)).before #[] U = true ∧ ∃ kA : Class, U.vm.classes[g.2.2.1 3]? = some kA ∧ kA.kind = .array (g.2.2.1 0) (.array .int)
theorem AA.moved {g : Gx} {u U : State} (hvm : u.vm.Alike U.vm) (h : AA g u) : AA g U := by
  obtain ⟨h0, kA, hk, hkk⟩ := h
  obtain ⟨k', hk', he⟩ := hvm.2.2 _ _ hk
  refine ⟨?_, k', hk', by rw [he]; exact hkk⟩
  obtain ⟨comp, c, k, h1, h2, h3, h4, h5⟩ := arrayOverA_spec h0
  obtain ⟨k2, hk2, he2⟩ := hvm.2.2 _ _ h3
  have hi : (U.vm.classes.findIdx? fun (x : Class) => match x.kind with | .array component _ => component == comp | _ => false) = some c := by
    rw [hvm.findIdx?_eq _ (fun _ => rfl)]
    exact h2
  have hkind : k2.kind = .array comp (.array .int) := by rw [he2]; exact h4
  have f1 : U.vm.findClass (FieldType.array .int).toString = some comp := by rw [hvm.findClass]; exact h1
  have f2 : U.vm.findClass ("[" ++ (FieldType.array .int).toString) = some c := by rw [hvm.findClass]; exact h5
  unfold Cond.before Cond.holds
  simp only [Cond.value]
  rw [f1, Option.bind_some]
  refine (congrArg (fun o : Option Nat => (o.bind (fun c => (U.vm.classes[c]?).map fun (k : Class) => match k.kind with | .array _ ty => decide (ty = FieldType.array .int) && decide (U.vm.findClass ("[" ++ (FieldType.array .int).toString) = some c) | _ => false) == some true)) hi).trans ?_
  simp [hk2, hkind, f2]
/-- the law's own script: an old array of ints, its place, length and ints told by g -/
def Sc (g : Gx) (A : Nat → Prop) (U : State) (H : Heap) : Prop := va_T .int (g.2.2.2.2 3) (g.2.2.2.2 4) (fun j => .int (Int32.ofNat (g.2.2.2.2 (200 + j)))) A U H
def Sg (g : Gx) (A : Nat → Prop) (U : State) (H : Heap) : Prop := (∀ w ∈ NW, va_Nw w U) ∧ va_Z RX3 "RIDES_IN_WORD" "[J" (.ref (g.2.2.2.2 0)) A U H ∧ va_T .long (g.2.2.2.2 0) 6 ridesV A U H ∧ Sx g.2.2.2.2 A U H ∧ AA g U ∧ Sc g A U H
theorem Sg.same {g : Gx} {A : Nat → Prop} {u U : State} {H : Heap} (hv : u.vm = U.vm) (h : Sg g A u H) : Sg g A U H :=
  ⟨fun w hw => (h.1 w hw).same (nest_tabs (List.mem_filter.mp hw).2) hv, h.2.1.moved (by rw [hv]; exact Vm.Alike.refl _), h.2.2.1.moved (by rw [hv]; exact Vm.Alike.refl _), h.2.2.2.1.same hv, h.2.2.2.2.1.moved (by rw [hv]; exact Vm.Alike.refl _), va_T.moved (by rw [hv]; exact Vm.Alike.refl _) h.2.2.2.2.2⟩
theorem Sg.warm {g : Gx} {A : Nat → Prop} {u U : State} {H : Heap} (hW : u.WarmedH U.vm) (h : Sg g A u H) : Sg g A U H :=
  ⟨fun w hw => nest_warm (List.mem_filter.mp hw).2 hW (h.1 w hw), h.2.1.moved hW.alike, h.2.2.1.moved hW.alike, h.2.2.2.1.warm hW, h.2.2.2.2.1.moved hW.alike, va_T.moved hW.alike h.2.2.2.2.2⟩
theorem Sg.kept {g : Gx} {A : Nat → Prop} {U : State} {H H1 : Heap} (h : Sg g A U H) (hq : ∀ a : Nat, a < H.size → ¬ A a → H1[a]? = H[a]?) : Sg g A U H1 := ⟨h.1, h.2.1.kept hq, h.2.2.1.kept hq, h.2.2.2.1.kept hq, h.2.2.2.2.1, va_T.kept h.2.2.2.2.2 hq⟩
theorem Sg.narrow {g : Gx} {A B : Nat → Prop} {U : State} {H : Heap} (h : Sg g A U H) (hAB : ∀ q, B q → A q) : Sg g B U H := ⟨h.1, h.2.1.narrow hAB, h.2.2.1.narrow hAB, h.2.2.2.1.narrow hAB, h.2.2.2.2.1, va_T.narrow h.2.2.2.2.2 hAB⟩
