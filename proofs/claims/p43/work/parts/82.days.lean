/-! Days pass: the class by itself -/
def isC (c : Nat) : Prop := c = 46 ∨ c = 47
/-- the book and a course of days at the cell c -/
def CoC (c : Nat) (b : Bok) (m dy ca : Nat) (x : XS) : Prop := Base b x ∧ m < 2 ^ bS b ∧ x.1 c 1 = nI m ∧ x.1 c 0 = nI dy ∧ x.1 c 2 = nI ca
theorem CoC_46 {b : Bok} {m dy ca : Nat} {x : XS} : CoC 46 b m dy ca x ↔ Cls b m dy ca x := Iff.rfl
/-- the judge's stack, its top first -/
def StV (x : XS) : List Int32 → Prop
  | [] => True
  | v :: t => x.1 45 t.length = v ∧ StV x t
theorem StV_of {x y : XS} : ∀ {l : List Int32}, (∀ k, k < l.length → y.1 45 k = x.1 45 k) → StV x l → StV y l
  | [], _, _ => trivial
  | v :: t, h, hs => ⟨(h t.length (Nat.lt_succ_self _)).trans hs.1, StV_of (fun k hk => h k (Nat.lt_succ_of_lt hk)) hs.2⟩
def JC (c : Nat) (b : Bok) (m dy ca : Nat) (x : XS) (l : List Int32) : Prop := CoC c b m dy ca x ∧ x.1 44 4 = nI l.length ∧ l.length ≤ 20 ∧ StV x l
section DYS
variable {c : Nat} {b : Bok} {m dy ca : Nat} {x : XS} {l : List Int32}
theorem CoC.ne (h : CoC c b m dy ca x) : nI m ≠ -1 := nI_ne1 (Nat.lt_of_lt_of_le h.2.1 (Nat.pow_le_pow_right (by decide) (by have := h.1.2.2.2.2.2.2.2.1; omega)))
theorem CoC.mv (h : CoC c b m dy ca x) {y : XS} (hB : Base b y) (hc : ∀ k, y.1 c k = x.1 c k) : CoC c b m dy ca y := ⟨hB, h.2.1, by rw [hc]; exact h.2.2.1, by rw [hc]; exact h.2.2.2.1, by rw [hc]; exact h.2.2.2.2⟩
theorem Base.st (h : Base b x) {y : XS} (e : ∀ q k, q ≠ 44 → q ≠ 45 → q ≠ 46 → q ≠ 47 → y.1 q k = x.1 q k) (e2 : y.2 = x.2) : Base b y := by
  refine h.mv (fun q hq k => e q k (by omega) (by omega) (by omega) (by omega)) (e _ _ (by decide) (by decide) (by decide) (by decide)) (fun k => by rw [e2]) ?_ ?_
  · rw [e _ _ (by decide) (by decide) (by decide) (by decide)]; exact h.2.1.imp id (WebC_of (fun q k hq => e q k (by omega) (by omega) (by omega) (by omega)))
  · rw [e _ _ (by decide) (by decide) (by decide) (by decide)]; exact h.2.2.1.imp id (LandC_of (e _ _ (by decide) (by decide) (by decide) (by decide)) (fun k => by rw [e2]))
theorem push_eq {n : Nat} (h : x.1 44 4 = nI n) (hT : n < 400) (v : Int32) : pushF x v = setI (setI x 45 n v) 44 4 (nI (n + 1)) := by
  unfold pushF
  rw [h, if_neg (nI_pos (by omega)), if_neg (nI_ge hT (by decide)), nI_clamp (by omega)]
  dsimp only
  rw [rdI_ne (by decide), h, show nI n + 1 = nI (n + 1) from nI_addN _ 1]
theorem J_push (hc : isC c) (h : JC c b m dy ca x l) (hl : l.length < 20) (v : Int32) : JC c b m dy ca (pushF x v) (v :: l) := by
  unfold isC at hc
  rw [push_eq h.2.1 (by omega)]
  have e : ∀ q k, q ≠ 44 → q ≠ 45 → (setI (setI x 45 l.length v) 44 4 (nI (l.length + 1))).1 q k = x.1 q k := fun q k h1 h2 => (rdI_ne h1).trans (rdI_ne h2)
  refine ⟨h.1.mv (h.1.1.st (fun q k h1 h2 _ _ => e q k h1 h2) rfl) (fun k => e c k (by omega) (by omega)), rdI_eq, by show l.length + 1 ≤ 20; omega, ?_, StV_of (fun k hk => ?_) h.2.2.2⟩
  · rw [rdI_ne (by decide), rdI_eq]
  · rw [rdI_ne (by decide), rdI_nk (by omega)]
theorem J_pop (hc : isC c) {v : Int32} (h : JC c b m dy ca x (v :: l)) : (popF x).1 = v ∧ JC c b m dy ca (popF x).2 l := by
  unfold isC at hc
  have hl : l.length + 1 ≤ 20 := h.2.2.1
  have h2 : x.1 44 4 = nI (l.length + 1) := h.2.1
  have e : nI (l.length + 1) - 1 = nI l.length := by rw [← nI_addN l.length 1]; exact Int32.add_sub_cancel _ _
  have ep : popF x = (x.1 45 l.length, setI x 44 4 (nI l.length)) := by
    unfold popF
    rw [h2, if_neg (fun q => by have := (nz_le (by omega)).mp q; omega), if_pos ((nI_leq (by omega) (by decide)).mpr (by omega))]
    dsimp only
    rw [e, rdI_ne (by decide), rdI_eq, nI_clamp (by omega)]
  rw [ep]
  have e9 : ∀ q k, q ≠ 44 → (setI x 44 4 (nI l.length)).1 q k = x.1 q k := fun q k h1 => rdI_ne h1
  exact ⟨h.2.2.2.1, h.1.mv (h.1.1.st (fun q k h1 _ _ _ => e9 q k h1) rfl) (fun k => e9 c k (by omega)), rdI_eq, by omega, StV_of (fun k hk => e9 45 k (by decide)) h.2.2.2.2⟩
theorem J_land (hc : isC c) (h : JC c b m dy ca x l) : JC c b m dy ca (landLook (x.1 c 1) x) l := by
  unfold isC at hc
  have h1 := h.1.1.land1 (s := x.1 c 1) (by rw [h.1.2.2.1]; exact h.1.ne)
  exact ⟨h.1.mv h1.1 (fun k => land_1 (by omega)), by rw [land_1 (by decide)]; exact h.2.1, h.2.2.1, StV_of (fun k _ => land_1 (by decide)) h.2.2.2⟩
theorem J_web (hc : isC c) (h : JC c b m dy ca x l) : JC c b m dy ca (webLook (x.1 c 1) x) l ∧ WebC (webLook (x.1 c 1) x) (bF b) (bS b) (bl b) (br b) (nI m) := by
  unfold isC at hc
  have h1 := h.1.1.web1 (s := x.1 c 1) (by rw [h.1.2.2.1]; exact h.1.ne)
  refine ⟨⟨h.1.mv h1.1 (fun k => web_1 (by omega) (by omega) (by omega)), by rw [web_1 (by decide) (by decide) (by decide)]; exact h.2.1, h.2.2.1, StV_of (fun k _ => web_1 (by decide) (by decide) (by decide)) h.2.2.2⟩, ?_⟩
  have := h1.2
  rw [h.1.2.2.1] at this ⊢
  exact this
/-- one place of a test: what it makes of the stack -/
def evI (b : Bok) (m dy : Nat) (it : Int32 × Int32 × Int32) (l : List Int32) : List Int32 :=
  if it.1 = 259 then it.2.1 :: l else
  if it.1 = 315 then nI dy :: l else
  if it.1 = 316 then nI (nS b m) :: l else
  if it.1 = 317 then nI (pN (bF b) (RB b m)) :: l else
  if it.1 = 318 then nI (nP b m) :: l else
  if it.1 = 319 then (if nI (nW b m it.2.1.toNatClampNeg) ≤ 0 then 0 else 1) :: l else
  if it.1 = 320 then b2i (m.testBit it.2.1.toNatClampNeg) :: l else
  if it.1 = 321 then b2i (RB b m it.2.2.toNatClampNeg it.2.1.toNatClampNeg) :: l else
  if it.1 = 323 then (if l.headD 0 = 0 then 1 else 0) :: l.tail else
  combF it.1 (l.tail.headD 0) (l.headD 0) :: l.tail.tail
def okI (b : Bok) (it : Int32 × Int32 × Int32) (n : Nat) : Prop :=
  (it.1 = 259 ∨ it.1 = 315 ∨ it.1 = 316 ∨ it.1 = 317 ∨ it.1 = 318) ∨ (it.1 = 319 ∧ ∃ k, it.2.1 = nI k ∧ k < 2 * bF b) ∨ (it.1 = 320 ∧ ∃ k, it.2.1 = nI k ∧ k < bS b) ∨ (it.1 = 321 ∧ ∃ k j, it.2.1 = nI k ∧ it.2.2 = nI j ∧ k < 2 * bF b ∧ j < 2 * bF b) ∨ (it.1 = 323 ∧ 1 ≤ n) ∨ ((it.1 ≠ 259 ∧ it.1 ≠ 262 ∧ it.1 ≠ 315 ∧ it.1 ≠ 316 ∧ it.1 ≠ 317 ∧ it.1 ≠ 318 ∧ it.1 ≠ 319 ∧ it.1 ≠ 320 ∧ it.1 ≠ 321 ∧ it.1 ≠ 323) ∧ 2 ≤ n)
theorem rec_step (hc : isC c) (h : JC c b m dy ca x l) (hl : l.length < 20) {it : Int32 × Int32 × Int32} (ok : okI b it l.length) {pl : Nat} (hpl : pl < 400) (e1 : x.1 31 pl = it.1) (e2 : (it.1 = 259 ∨ it.1 = 319 ∨ it.1 = 320 ∨ it.1 = 321) → x.1 32 pl = it.2.1) (e3 : it.1 = 321 → x.1 33 pl = it.2.2) : JC c b m dy ca (recF c (nI pl) x) (evI b m dy it l) := by
  have hW := h.1.1.2.2.2.2.2.2
  have hF := hW.1
  have hS := hW.2.1
  have hne := h.1.ne
  have hs := h.1.2.2.1
  have m32 : m < 2 ^ 32 := Nat.lt_of_lt_of_le h.1.2.1 (Nat.pow_le_pow_right (by decide) (by omega))
  unfold recF evI
  dsimp only
  rw [entI_nI hpl (by decide), entI_nI hpl (by decide), entI_nI hpl (by decide), e1]
  rcases ok with (z | z | z | z | z) | ⟨z, k, k1, k2⟩ | ⟨z, k, k1, k2⟩ | ⟨z, k, j, k1, j1, k2, j2⟩ | ⟨z, z2⟩ | ⟨⟨z1, z2, z3, z4, z5, z6, z7, z8, z9, z10⟩, z11⟩
  · rw [if_pos z, if_pos z, e2 (Or.inl z)]; exact J_push hc h hl _
  · rw [z, if_neg (by decide), if_neg (by decide), if_pos rfl, if_neg (by decide), if_pos rfl, h.1.2.2.2.1]; exact J_push hc h hl _
  · rw [z, if_neg (by decide), if_neg (by decide), if_neg (by decide), if_pos rfl, if_neg (by decide), if_neg (by decide), if_pos rfl, hs, bc_nS hW h.1.2.1]; exact J_push hc h hl _
  · rw [z, if_neg (by decide), if_neg (by decide), if_neg (by decide), if_neg (by decide), if_pos rfl, if_neg (by decide), if_neg (by decide), if_neg (by decide), if_pos rfl]
    obtain ⟨w1, w2⟩ := J_web hc h
    rw [w2.2.2.2]
    exact J_push hc w1 hl _
  · rw [z, if_neg (by decide), if_neg (by decide), if_neg (by decide), if_neg (by decide), if_neg (by decide), if_pos rfl, if_neg (by decide), if_neg (by decide), if_neg (by decide), if_neg (by decide), if_pos rfl]
    have hcn : countF x (x.1 c 1) = nI (nP b m) := by rw [hs]; exact count_eq h.1.1.1.1 h.1.1.1.2 h.1.1.2.2.1 hne
    rw [hcn]
    exact J_push hc (J_land hc h) hl _
  · have hcn : countWithF x (x.1 c 1) (nI k) = nI (nW b m k) := by rw [hs]; exact countWith_eq h.1.1.1.1 h.1.1.1.2 h.1.1.2.2.1 hne (by omega)
    rw [z, e2 (Or.inr (Or.inl z)), k1, hcn, nI_clamp (show k < 2 ^ 31 by omega)]
    generalize (if nI (nW b m k) ≤ 0 then (0 : Int32) else 1) = v
    rw [if_neg (by decide), if_neg (by decide), if_neg (by decide), if_neg (by decide), if_neg (by decide), if_neg (by decide), if_pos rfl, if_neg (by decide), if_neg (by decide), if_neg (by decide), if_neg (by decide), if_neg (by decide), if_pos rfl]
    exact J_push hc (J_land hc h) hl _
  · rw [z, if_neg (by decide), if_neg (by decide), if_neg (by decide), if_neg (by decide), if_neg (by decide), if_neg (by decide), if_neg (by decide), if_pos rfl, if_neg (by decide), if_neg (by decide), if_neg (by decide), if_neg (by decide), if_neg (by decide), if_neg (by decide), if_pos rfl, e2 (by rw [z]; decide), k1, nI_clamp (by omega), hs, hasB_bit (by omega), bit_nI m32]
    exact J_push hc h hl _
  · rw [z, if_neg (by decide), if_neg (by decide), if_neg (by decide), if_neg (by decide), if_neg (by decide), if_neg (by decide), if_neg (by decide), if_neg (by decide), if_pos rfl, if_neg (by decide), if_neg (by decide), if_neg (by decide), if_neg (by decide), if_neg (by decide), if_neg (by decide), if_neg (by decide), if_pos rfl, e2 (by rw [z]; decide), e3 z, k1, j1, nI_clamp (by omega), nI_clamp (by omega), reach_eq (by omega), hasB_bit (by omega)]
    obtain ⟨w1, w2⟩ := J_web hc h
    rw [w2.2.2.1 j j2 k (by omega)]
    exact J_push hc w1 hl _
  · match l, h, z2 with
    | v :: t, h, _ =>
      obtain ⟨p1, p2⟩ := J_pop hc h
      rw [z, p1, show (v :: t).headD 0 = v from rfl, show (v :: t).tail = t from rfl]
      generalize (if v = 0 then (1 : Int32) else 0) = w
      rw [if_neg (by decide), if_neg (by decide), if_neg (by decide), if_neg (by decide), if_neg (by decide), if_neg (by decide), if_neg (by decide), if_neg (by decide), if_neg (by decide), if_pos rfl, if_neg (by decide), if_neg (by decide), if_neg (by decide), if_neg (by decide), if_neg (by decide), if_neg (by decide), if_neg (by decide), if_neg (by decide), if_pos rfl]
      exact J_push hc p2 (by have : t.length + 1 < 20 := hl; omega) _
  · rw [if_neg z1, if_neg z2, if_neg z3, if_neg z4, if_neg z5, if_neg z6, if_neg z7, if_neg z8, if_neg z9, if_neg z10, if_neg z1, if_neg z3, if_neg z4, if_neg z5, if_neg z6, if_neg z7, if_neg z8, if_neg z9, if_neg z10]
    match l, h, z11 with
    | v :: w :: t, h, _ =>
      obtain ⟨p1, p2⟩ := J_pop hc h
      obtain ⟨p3, p4⟩ := J_pop hc p2
      rw [p1, p3]
      exact J_push hc p4 (by have : t.length + 1 + 1 < 20 := hl; omega) _
def evL (b : Bok) (m dy : Nat) : List (Int32 × Int32 × Int32) → List Int32 → List Int32
  | [], l => l
  | it :: r, l => evL b m dy r (evI b m dy it l)
def okL (b : Bok) (m dy : Nat) : List (Int32 × Int32 × Int32) → List Int32 → Prop
  | [], _ => True
  | it :: r, l => okI b it l.length ∧ l.length < 20 ∧ okL b m dy r (evI b m dy it l)
theorem run_code (hc : isC c) : ∀ (cd : List (Int32 × Int32 × Int32)) (pl : Nat) (x : XS) (l : List Int32), JC c b m dy ca x l → pl + cd.length ≤ 400 → CodeAt x pl cd → okL b m dy cd l → JC c b m dy ca (recL c cd.length (nI pl) x) (evL b m dy cd l)
  | [], _, _, _, h, _, _, _ => h
  | it :: r, pl, x, l, h, hp, hcd, ok => by
    have hp' : pl + (r.length + 1) ≤ 400 := hp
    obtain ⟨k1, k2, k3⟩ := hcd 0 (Nat.zero_lt_succ _)
    rw [Nat.add_zero] at k1 k2 k3
    have h1 := rec_step hc h ok.2.1 ok.1 (show pl < 400 by omega) k1 k2 k3
    show JC c b m dy ca (recL c r.length (nI pl + 1) (recF c (nI pl) x)) (evL b m dy r (evI b m dy it l))
    rw [nI_1]
    refine run_code hc r (pl + 1) _ _ h1 (by omega) (fun i hi => ?_) ok.2.2
    obtain ⟨g1, g2, g3⟩ := hcd (i + 1) (Nat.succ_lt_succ hi)
    rw [show pl + (i + 1) = pl + 1 + i by omega] at g1 g2 g3
    refine ⟨?_, fun z => ?_, fun z => ?_⟩
    · rw [rec_1 (by unfold jq; decide)]; exact g1
    · rw [rec_1 (by unfold jq; decide)]; exact g2 z
    · rw [rec_1 (by unfold jq; decide)]; exact g3 z
end DYS
