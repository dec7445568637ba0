/-! One place reckoned: both stacks stay alike -/
theorem push_bk {R : XS → XS → Prop} (hR : Stab R) {c : Nat} (hc : isC c) {x z : XS} {F S : Nat} {l r : Nat → Nat} {m : Nat} {T : List Bool} (hB : BkC R c x z F S l r m) (hJ : JS T x z) (hT : T.length < 400) {v : Int32} {b : Bool} (hb : yn b v) : BkC R c (pushF x v) (setI z 7 T.length v) F S l r m ∧ JS (b :: T) (pushF x v) (setI z 7 T.length v) := by
  refine ⟨(hB.st hR hc (fun q k h1 h2 => push_1 h1 h2) ?_).z7 hR _ _, JS_push hJ hT hb⟩
  rw [push_eq hJ.2.1 hT]; rfl
/-- what a pushing place does in both -/
def Psh (R : XS → XS → Prop) (c : Nat) (x z : XS) (F S : Nat) (l r : Nat → Nat) (m pl nx nx' : Nat) (T T' : List Bool) : Prop :=
  ∃ v x1 z1 b, recF c (nI pl) x = pushF x1 v ∧ pushO (z.1 19 nx) (nI (nx + 1)) z = some (v, z1) ∧ BkC R c x1 z1 F S l r m ∧ JS T x1 z1 ∧ (∀ k, z1.1 19 k = z.1 19 k) ∧ T' = b :: T ∧ yn b v ∧ nI (nx + 1) + takenF (z.1 19 nx) = nI nx' ∧ ¬ takenF (z.1 19 nx) < 0
def Don (R : XS → XS → Prop) (c : Nat) (x z : XS) (F S : Nat) (l r : Nat → Nat) (m pl nx nx' : Nat) (T T' : List Bool) : Prop :=
  ∃ z', (∀ (n : Nat) (e : Int32), ¬ e ≤ nI nx → coL e (n + 1) (nI nx) (tpI T.length) z = coL e n (nI nx') (tpI T'.length) z') ∧ BkC R c (recF c (nI pl) x) z' F S l r m ∧ JS T' (recF c (nI pl) x) z' ∧ ∀ k, z'.1 19 k = z.1 19 k
theorem psh_don {R : XS → XS → Prop} (hR : Stab R) {c : Nat} (hc : isC c) {x z : XS} {F S : Nat} {l r : Nat → Nat} {m pl nx nx' : Nat} {T T' : List Bool} (hnx : nx < 800) (hT : T'.length ≤ 400) (h : Psh R c x z F S l r m pl nx nx' T T') : Don R c x z F S l r m pl nx nx' T T' := by
  obtain ⟨v, x1, z1, b, e1, e2, e3, e4, e5, rfl, e7, e8, e9⟩ := h
  have hL : T.length < 400 := hT
  obtain ⟨p1, p2⟩ := push_bk hR hc e3 e4 hL e7
  refine ⟨setI z1 7 T.length v, fun n e he => ?_, by rw [e1]; exact p1, by rw [e1]; exact p2, fun k => (rdI_ne (by decide)).trans (e5 k)⟩
  rw [co_push he hnx hL e9 e2, e8]; rfl
theorem b2i_if (b : Bool) : b2i b = if b then 1 else 0 := rfl
theorem cl_ok {z : XS} {nx c : Nat} (hnx : nx + 1 < 800) (hc : c < 20) (h : 2 * z.1 19 nx + z.1 19 (nx + 1) = nI c) : clO z (nI nx) = true ∧ clF z (nI nx) = nI c := by
  have e : clF z (nI nx) = nI c := by
    unfold clF
    rw [show nI nx + 1 = nI (nx + 1) from nI_addN nx 1, nI_clamp (by omega), nI_clamp (by omega)]; exact h
  refine ⟨?_, e⟩
  unfold clO
  rw [e, show nI nx + 1 = nI (nx + 1) from nI_addN nx 1, inB_nI (show nx < 800 by omega) (by decide), inB_nI (show nx + 1 < 800 by omega) (by decide), inB_nI hc (by decide)]; rfl
theorem rec_ok {R : XS → XS → Prop} (hR : Stab R) {c : Nat} (hc : isC c) {x z : XS} {F S : Nat} {l r : Nat → Nat} {m pl nx nx' : Nat} {T T' : List Bool} (hB : BkC R c x z F S l r m) (hJ : JS T x z) (hpl : pl < 400) (hnx : nx' ≤ 800) (hT : T'.length ≤ 400) (hI : ItX x z F S pl nx nx' T T') : Don R c x z F S l r m pl nx nx' T T' := by
  obtain ⟨r1, r2, r3⟩ := rec_eq c (x := x) hpl
  have hF := hB.x1.1
  have hS := hB.x1.2.1
  have hne := Bk.ne hB
  have hs := hB.s1
  have hzs := Bk.zs hB
  have hcq : c ≠ 44 ∧ c ≠ 45 := by unfold isC at hc; omega
  have jl : ∀ {x1 z1 : XS}, (∀ q k, q = 44 ∨ q = 45 → x1.1 q k = x.1 q k) → (∀ k, z1.1 7 k = z.1 7 k) → JS T x1 z1 := fun a b => JS_of a b hJ
  unfold ItX at hI
  rcases hI with ⟨o1, o2, o3, o4, o5⟩ | ⟨o1, o2, o4, t, rfl, rfl⟩ | ⟨o1, o2, o4, o5⟩ | ⟨o1, o2, o4, o5⟩ | ⟨o1, o2, o4, o5⟩ | ⟨o1, o2, o4, o5⟩ | ⟨o1, o2, o4, o5, d, d1, d2, d3⟩ | ⟨o1, o2, o4, o5, k, k1, k2, k3⟩ | ⟨o1, o2, o4, o5, d, g, d1, g1, d2, g2, d3, g3⟩ | ⟨o1, o2, o4, t, rfl, rfl⟩ | ⟨i, b, t, o1, o4, rfl, rfl⟩
  · refine psh_don hR hc (by omega) hT ⟨z.1 19 (nx + 1), x, z, false, ?_, ?_, hB, hJ, fun _ => rfl, o5, fun h => (by cases h), ?_, ?_⟩
    · unfold recF; dsimp only; rw [r1, r2, o1, if_pos rfl, o3]
    · unfold pushO; rw [o2]
      rw [if_neg (by decide), if_neg (by decide), if_neg (by decide), if_neg (by decide), if_neg (by decide), if_neg (by decide), if_neg (by decide), inB_nI (show nx + 1 < 800 by omega) (by decide), if_pos rfl, nI_clamp (by omega)]
    · rw [o2, o4]; exact nI_addN (nx + 1) 1
    · rw [o2]; decide
  · obtain ⟨p1, p2, p3⟩ := JS_pop hJ
    have hl : t.length < 400 := hT
    have e1 : recF c (nI pl) x = pushF (popF x).2 (-(z.1 7 t.length)) := by
      unfold recF; dsimp only; rw [r1, o1, if_neg (by decide), if_pos rfl, p1]
    have hB2 : BkC R c (popF x).2 z F S l r m := hB.st hR hc (fun q k h1 h2 => pop_1 h1) (by rw [pop_eq hJ]; rfl)
    obtain ⟨q1, q2⟩ := push_bk hR hc (b := false) hB2 p3 hl (v := -(z.1 7 t.length)) (fun h => by cases h)
    refine ⟨_, fun n e he => ?_, by rw [e1]; exact q1, by rw [e1]; exact q2, fun k => rdI_ne (by decide)⟩
    rw [o4]
    exact (co_un he (by omega) hl (by rw [o2]; decide)).1 o2
  · refine psh_don hR hc (by omega) hT ⟨z.1 0 13, x, z, false, ?_, ?_, hB, hJ, fun _ => rfl, o5, fun h => (by cases h), ?_, ?_⟩
    · unfold recF; dsimp only; rw [r1, o1, if_neg (by decide), if_neg (by decide), if_pos rfl, hB.d1]
    · unfold pushO; rw [o2, if_pos rfl]
    · rw [o2, o4]; exact nI_addN (nx + 1) 0
    · rw [o2]; decide
  · refine psh_don hR hc (by omega) hT ⟨bcI (nI m), x, z, false, ?_, ?_, hB, hJ, fun _ => rfl, o5, fun h => (by cases h), ?_, ?_⟩
    · unfold recF; dsimp only; rw [r1, o1, if_neg (by decide), if_neg (by decide), if_neg (by decide), if_pos rfl, hs]
    · unfold pushO; rw [o2, if_neg (by decide), if_pos rfl, hzs]
    · rw [o2, o4]; exact nI_addN (nx + 1) 0
    · rw [o2]; decide
  · obtain ⟨f1, f2⟩ := Bk.fol1 hR hB
    have f1' : BkC R c x (mfol z) F S l r m := f1
    obtain ⟨w1, w2⟩ := f1'.web2 hR hc hne
    refine psh_don hR hc (by omega) hT ⟨nI (pN F (RR F S l r (nI m))), webLook (nI m) x, mfol z, false, ?_, ?_, w1, jl (fun q k h => web_1 (by omega) (by omega) (by omega)) (fun k => fol_1 (by decide) (by decide)), fun k => fol_1 (by decide) (by decide), o5, fun h => (by cases h), ?_, ?_⟩
    · unfold recF; dsimp only; rw [r1, o1, if_neg (by decide), if_neg (by decide), if_neg (by decide), if_neg (by decide), if_pos rfl, hs, w2.2.2.2]
    · unfold pushO; rw [o2, if_neg (by decide), if_neg (by decide), if_pos rfl, f2.2]
    · rw [o2, o4]; exact nI_addN (nx + 1) 0
    · rw [o2]; decide
  · obtain ⟨f1, f2⟩ := Bk.lookz hR hB
    have f1' : BkC R c x (mlook (z.1 0 15) z) F S l r m := f1
    have w1 := f1'.land2 hR hc hne
    have w2 := count_eq hB.x1 hB.p1 hB.l1 hne
    refine psh_don hR hc (by omega) hT ⟨nI (fb_ct (PA l r (nI m) S) (2 ^ F)), landLook (nI m) x, mlook (z.1 0 15) z, false, ?_, ?_, w1, jl (fun q k h => land_1 (by omega)) (fun k => mlook_1 (by decide) (by decide)), fun k => mlook_1 (by decide) (by decide), o5, fun h => (by cases h), ?_, ?_⟩
    · unfold recF; dsimp only; rw [r1, o1, if_neg (by decide), if_neg (by decide), if_neg (by decide), if_neg (by decide), if_neg (by decide), if_pos rfl, hs, w2]
    · unfold pushO; rw [o2, if_neg (by decide), if_neg (by decide), if_neg (by decide), if_pos rfl, f2.1]
    · rw [o2, o4]; exact nI_addN (nx + 1) 0
    · rw [o2]; decide
  · obtain ⟨f1, f2⟩ := Bk.lookz hR hB
    have f1' : BkC R c x (mlook (z.1 0 15) z) F S l r m := f1
    have w1 := f1'.land2 hR hc hne
    have w2 := countWith_eq hB.x1 hB.p1 hB.l1 hne (c := d) (by omega)
    obtain ⟨c1, c2⟩ := cl_ok (z := z) (nx := nx + 1) (c := d) (by omega) (by omega) d3
    refine psh_don hR hc (by omega) hT ⟨if nI (fb_ct (fun p => PA l r (nI m) S p && holdsP p d) (2 ^ F)) ≤ 0 then 0 else 1, landLook (nI m) x, mlook (z.1 0 15) z, true, ?_, ?_, w1, jl (fun q k h => land_1 (by omega)) (fun k => mlook_1 (by decide) (by decide)), fun k => mlook_1 (by decide) (by decide), o5, yn_b _, ?_, ?_⟩
    · unfold recF; dsimp only; rw [r1, r2, o1, if_neg (by decide), if_neg (by decide), if_neg (by decide), if_neg (by decide), if_neg (by decide), if_neg (by decide), if_pos rfl, hs, d2, w2]
    · unfold pushO; rw [o2, if_neg (by decide), if_neg (by decide), if_neg (by decide), if_neg (by decide), if_pos rfl, c1, if_pos rfl, c2, nI_clamp (by omega), f2.2.2.2 d d1]
    · rw [o2, o4]; exact nI_addN (nx + 1) 2
    · rw [o2]; decide
  · refine psh_don hR hc (by omega) hT ⟨if bit (nI m) k = true then 1 else 0, x, z, true, ?_, ?_, hB, hJ, fun _ => rfl, o5, yn_b' _, ?_, ?_⟩
    · unfold recF; dsimp only; rw [r1, r2, o1, if_neg (by decide), if_neg (by decide), if_neg (by decide), if_neg (by decide), if_neg (by decide), if_neg (by decide), if_neg (by decide), if_pos rfl, hs, k2, hasB_bit (show k < 32 by omega), b2i_if]
    · unfold pushO; rw [o2, if_neg (by decide), if_neg (by decide), if_neg (by decide), if_neg (by decide), if_neg (by decide), if_pos rfl, inB_nI (show nx + 1 < 800 by omega) (by decide), if_pos rfl, nI_clamp (by omega), k3, hzs, mhasB_bit (show k < 32 by omega)]
    · rw [o2, o4]; exact nI_addN (nx + 1) 1
    · rw [o2]; decide
  · obtain ⟨f1, f2⟩ := Bk.fol1 hR hB
    have f1' : BkC R c x (mfol z) F S l r m := f1
    obtain ⟨w1, w2⟩ := f1'.web2 hR hc hne
    obtain ⟨c1, c2⟩ := cl_ok (z := z) (nx := nx + 1) (c := d) (by omega) (by omega) d3
    obtain ⟨c3, c4⟩ := cl_ok (z := z) (nx := nx + 3) (c := g) (by omega) (by omega) g3
    refine psh_don hR hc (by omega) hT ⟨if bit ((mfol z).1 9 g) d = true then 1 else 0, webLook (nI m) x, mfol z, true, ?_, ?_, w1, jl (fun q k h => web_1 (by omega) (by omega) (by omega)) (fun k => fol_1 (by decide) (by decide)), fun k => fol_1 (by decide) (by decide), o5, yn_b' _, ?_, ?_⟩
    · unfold recF; dsimp only; rw [r1, r2, r3, o1, if_neg (by decide), if_neg (by decide), if_neg (by decide), if_neg (by decide), if_neg (by decide), if_neg (by decide), if_neg (by decide), if_neg (by decide), if_pos rfl, hs, d2, g2, reach_eq (show g < 20 by omega), row_same w2 f2 hF g1, hasB_bit (show d < 32 by omega), b2i_if]
    · unfold pushO; rw [o2, if_neg (by decide), if_neg (by decide), if_neg (by decide), if_neg (by decide), if_neg (by decide), if_neg (by decide), if_pos rfl, c1, if_pos rfl, show nI (nx + 1) + 2 = nI (nx + 3) from nI_addN (nx + 1) 2, c3, if_pos rfl, c2, c4, nI_clamp (by omega), mhasB_bit (show d < 32 by omega)]
    · rw [o2, o4]; exact nI_addN (nx + 1) 4
    · rw [o2]; decide
  · obtain ⟨p1, p2, p3⟩ := JS_pop hJ
    have hl : t.length < 400 := hT
    have p2' := p2 rfl
    rw [p1] at p2'
    have e1 : recF c (nI pl) x = pushF (popF x).2 (1 - z.1 7 t.length) := by
      unfold recF; dsimp only
      rw [r1, o1, if_neg (by decide), if_neg (by decide), if_neg (by decide), if_neg (by decide), if_neg (by decide), if_neg (by decide), if_neg (by decide), if_neg (by decide), if_neg (by decide), if_pos rfl, p1]
      congr 1
      rcases p2' with e | e <;> rw [e] <;> decide
    have hB2 : BkC R c (popF x).2 z F S l r m := hB.st hR hc (fun q k h1 h2 => pop_1 h1) (by rw [pop_eq hJ]; rfl)
    obtain ⟨q1, q2⟩ := push_bk hR hc (b := true) hB2 p3 hl (v := 1 - z.1 7 t.length) (fun _ => by rcases p2' with e | e <;> rw [e] <;> decide)
    refine ⟨_, fun n e he => ?_, by rw [e1]; exact q1, by rw [e1]; exact q2, fun k => rdI_ne (by decide)⟩
    rw [o4]
    exact (co_un he (by omega) hl (by rw [o2]; decide)).2 o2
  · obtain ⟨p1, p2, p3⟩ := JS_pop hJ
    obtain ⟨s1, s2, s3⟩ := JS_pop p3
    have hl : t.length + 2 ≤ 400 := hJ.1
    rw [p1] at p2
    rw [s1] at s2
    obtain ⟨b1, b2, b3, b4, b5, n1, n2, n3, n4, n5, n6, n7, n8, n9, n10⟩ := bin_ok o1 s2 p2
    have e1 : recF c (nI pl) x = pushF (popF (popF x).2).2 (bothF (z.1 19 nx) (z.1 7 t.length) (z.1 7 (t.length + 1))) := by
      unfold recF; dsimp only
      rw [r1, if_neg n1, if_neg n2, if_neg n3, if_neg n4, if_neg n5, if_neg n6, if_neg n7, if_neg n8, if_neg n9, if_neg n10, s1, p1]
      exact congrArg _ b1
    have hB2 : BkC R c (popF x).2 z F S l r m := hB.st hR hc (fun q k h1 h2 => pop_1 h1) (by rw [pop_eq hJ]; rfl)
    have hB3 : BkC R c (popF (popF x).2).2 z F S l r m := hB2.st hR hc (fun q k h1 h2 => pop_1 h1) (by rw [pop_eq p3]; rfl)
    obtain ⟨q1, q2⟩ := push_bk hR hc (b := b) hB3 s3 (by omega) (v := bothF (z.1 19 nx) (z.1 7 t.length) (z.1 7 (t.length + 1))) (by have h := b2; rw [b1] at h; exact h)
    refine ⟨_, fun n e he => ?_, by rw [e1]; exact q1, by rw [e1]; exact q2, fun k => rdI_ne (by decide)⟩
    rw [o4]
    exact co_bin he (by omega) (by omega) b3 b4 b5
