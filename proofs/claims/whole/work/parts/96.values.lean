/-! Sums, products, values -/
theorem obT {α : Type} {z : XS} {A B : Bool × XS → Option α} : ob (some (true, z)) (fun u => if b2i u.1 = 0 then A u else B u) = B (true, z) := by rw [ob_some1, if_neg (b2i_n rfl)]
theorem obF {α : Type} {z : XS} {A B : Bool × XS → Option α} : ob (some (false, z)) (fun u => if b2i u.1 = 0 then A u else B u) = A (false, z) := by rw [ob_some1, if_pos (b2i_f rfl)]
theorem ob_pair (q : Option (Bool × XS)) : ob q (fun u => some (u.1, u.2)) = q := by cases q <;> rfl
theorem next_t {x : XS} {v : Int32} (h : curK x = v) : nextB x v = true := decide_eq_true h
theorem next_f {x : XS} {v : Int32} (h : curK x ≠ v) : nextB x v = false := decide_eq_false h
theorem chain0 {b : Bool} {N F S d : Nat} {R : XS → Bool × XS} {P : XS → Option (Bool × XS)} (hR : Sm b R P N F S d) {CC : Nat → XS → Bool × XS} {GG : Nat → XS → Option (Bool × XS)} (ops : Int32 → Option Int32)
    (hb : ∀ k v, ops k = some v → (k, v, b, b) ∈ bins ∧ k ≠ 260 ∧ k ≠ 261)
    (hC0 : ∀ x, CC 0 x = (true, x))
    (hC1 : ∀ n x v, ops (curK x) = some v → CC (n + 1) x = if (R (adv x)).1 then CC n (addCoF (R (adv x)).2 (curK x) 0 0) else (false, (R (adv x)).2))
    (hC2 : ∀ n x, ops (curK x) = none → CC (n + 1) x = (true, x))
    (hG1 : ∀ n z p a v, z.1 0 9 = nI p → p < 401 → (a, z.1 2 p) ∈ KM → ops a = some v → GG (n + 1) z = ob (P (setI z 0 9 (nI (p + 1)))) (fun u => if b2i u.1 = 0 then some (false, u.2) else ob (f_X10_put v u.2) (fun y => GG n y)))
    (hG2 : ∀ n z p a, z.1 0 9 = nI p → p < 401 → (a, z.1 2 p) ∈ KM → ops a = none → GG (n + 1) z = some (true, z)) :
    Sm b (fun x => if (R x).1 then CC 400 (R x).2 else (false, (R x).2)) (fun z => ob (P z) (fun u1 => if (b2i u1.1) = 0 then some (false, u1.2) else GG 402 u1.2)) N F S d := by
  intro x z cf p c e o hs hc he ho
  dsimp only
  rcases hR x z cf p c e o hs hc he ho with ⟨w, g1, g2, g3⟩ | ⟨w, g1, g2, cg, p', n', e', o', k1, k2, k3, k4, k5, k6⟩
  · rw [g1, obF, g2, if_neg (by decide)]
    exact Or.inl ⟨w, rfl, rfl, g3⟩
  · rw [g1, obT, g2, if_pos rfl]
    exact chain hR ops hb hC0 hC1 hC2 hG1 hG2 hc he ho 402 400 _ _ cg p' n' e' o' k1 k2 k3 k4 k5 k6 (by omega) (by omega)
theorem op2_hC {o1 o2 : Int32} {R : XS → Bool × XS} {v1 v2 : Int32} : (∀ n x v, (if curK x = o1 then some v1 else if curK x = o2 then some v2 else none) = some v → op2L o1 o2 R (n + 1) x = if (R (adv x)).1 then op2L o1 o2 R n (addCoF (R (adv x)).2 (curK x) 0 0) else (false, (R (adv x)).2)) ∧
    (∀ n x, (if curK x = o1 then some v1 else if curK x = o2 then some v2 else none) = none → op2L o1 o2 R (n + 1) x = (true, x)) := by
  refine ⟨fun n x v h => ?_, fun n x h => ?_⟩
  · have : (nextB x o1 || nextB x o2) = true := by
      by_cases h1 : curK x = o1
      · rw [next_t h1]; rfl
      · rw [if_neg h1] at h
        by_cases h2 : curK x = o2
        · rw [next_t h2]; exact Bool.or_true _
        · rw [if_neg h2] at h; exact absurd h (by simp)
    rw [op2L, if_pos this]
  · have : ¬ (nextB x o1 || nextB x o2) = true := by
      by_cases h1 : curK x = o1
      · rw [if_pos h1] at h; exact absurd h (by simp)
      · rw [if_neg h1] at h
        by_cases h2 : curK x = o2
        · rw [if_pos h2] at h; exact absurd h (by simp)
        · rw [next_f h1, next_f h2]; decide
    rw [op2L, if_neg this]
theorem sm_product {N F S d : Nat} {R : XS → Bool × XS} {P : XS → Option (Bool × XS)} (hR : Sm false R P N F S d) : Sm false (op2U 42 47 R) (f_X10_isProduct P) N F S d := by
  refine chain0 hR (fun k => if k = 42 then some 36 else if k = 47 then some 37 else none) ?_ (fun _ => rfl) op2_hC.1 op2_hC.2 ?_ ?_ (CC := op2L 42 47 R) (GG := f_X10_isProduct_L9 P)
  · intro k v h
    by_cases h1 : k = 42
    · rw [if_pos h1] at h; injection h with h; subst h; subst h1; decide
    · rw [if_neg h1] at h
      by_cases h2 : k = 47
      · rw [if_pos h2] at h; injection h with h; subst h; subst h2; decide
      · rw [if_neg h2] at h; exact absurd h (by simp)
  · intro n z p a v hz hp hk h
    rw [f_X10_isProduct_L9]
    by_cases h1 : a = 42
    · rw [if_pos h1] at h; injection h with h
      have q : z.1 2 p = 50 + 42 := (km_iff hk (show ((42 : Int32), (92 : Int32)) ∈ KM by decide)).mp h1
      rw [sg_is, is_t hz hp q, obT]
      dsimp only
      rw [sg_is, is_t hz hp q, obT]
      dsimp only
      rw [hz, show nI p + 1 = nI (p + 1) from nI_addN p 1, h]
    · rw [if_neg h1] at h
      have q : z.1 2 p ≠ 50 + 42 := fun q => h1 ((km_iff hk (show ((42 : Int32), (92 : Int32)) ∈ KM by decide)).mpr q)
      by_cases h2 : a = 47
      · rw [if_pos h2] at h; injection h with h
        have q2 : z.1 2 p = 50 + 47 := (km_iff hk (show ((47 : Int32), (97 : Int32)) ∈ KM by decide)).mp h2
        rw [sg_is, is_f hz hp q, obF]
        dsimp only
        rw [sg_is, is_t hz hp q2, obT]
        dsimp only
        rw [sg_is, is_f hz hp q, obF]
        dsimp only
        rw [hz, show nI p + 1 = nI (p + 1) from nI_addN p 1, h]
      · rw [if_neg h2] at h; exact absurd h (by simp)
  · intro n z p a hz hp hk h
    by_cases h1 : a = 42
    · rw [if_pos h1] at h; exact absurd h (by simp)
    · rw [if_neg h1] at h
      have q : z.1 2 p ≠ 50 + 42 := fun q => h1 ((km_iff hk (show ((42 : Int32), (92 : Int32)) ∈ KM by decide)).mpr q)
      by_cases h2 : a = 47
      · rw [if_pos h2] at h; exact absurd h (by simp)
      · have q2 : z.1 2 p ≠ 50 + 47 := fun q => h2 ((km_iff hk (show ((47 : Int32), (97 : Int32)) ∈ KM by decide)).mpr q)
        rw [f_X10_isProduct_L9]
        rw [sg_is, is_f hz hp q, obF]
        dsimp only
        rw [sg_is, is_f hz hp q2, obF]
theorem sm_sum1 {N F S d : Nat} {R : XS → Bool × XS} {P : XS → Option (Bool × XS)} (hR : Sm false R P N F S d) : Sm false (op2U 43 45 R) (f_X10_isSum P) N F S d := by
  refine chain0 hR (fun k => if k = 43 then some 34 else if k = 45 then some 35 else none) ?_ (fun _ => rfl) op2_hC.1 op2_hC.2 ?_ ?_ (CC := op2L 43 45 R) (GG := f_X10_isSum_L9 P)
  · intro k v h
    by_cases h1 : k = 43
    · rw [if_pos h1] at h; injection h with h; subst h; subst h1; decide
    · rw [if_neg h1] at h
      by_cases h2 : k = 45
      · rw [if_pos h2] at h; injection h with h; subst h; subst h2; decide
      · rw [if_neg h2] at h; exact absurd h (by simp)
  · intro n z p a v hz hp hk h
    rw [f_X10_isSum_L9]
    by_cases h1 : a = 43
    · rw [if_pos h1] at h; injection h with h
      have q : z.1 2 p = 50 + 43 := (km_iff hk (show ((43 : Int32), (93 : Int32)) ∈ KM by decide)).mp h1
      rw [sg_is, is_t hz hp q, obT]
      dsimp only
      rw [sg_is, is_t hz hp q, obT]
      dsimp only
      rw [hz, show nI p + 1 = nI (p + 1) from nI_addN p 1, h]
    · rw [if_neg h1] at h
      have q : z.1 2 p ≠ 50 + 43 := fun q => h1 ((km_iff hk (show ((43 : Int32), (93 : Int32)) ∈ KM by decide)).mpr q)
      by_cases h2 : a = 45
      · rw [if_pos h2] at h; injection h with h
        have q2 : z.1 2 p = 50 + 45 := (km_iff hk (show ((45 : Int32), (95 : Int32)) ∈ KM by decide)).mp h2
        rw [sg_is, is_f hz hp q, obF]
        dsimp only
        rw [sg_is, is_t hz hp q2, obT]
        dsimp only
        rw [sg_is, is_f hz hp q, obF]
        dsimp only
        rw [hz, show nI p + 1 = nI (p + 1) from nI_addN p 1, h]
      · rw [if_neg h2] at h; exact absurd h (by simp)
  · intro n z p a hz hp hk h
    by_cases h1 : a = 43
    · rw [if_pos h1] at h; exact absurd h (by simp)
    · rw [if_neg h1] at h
      have q : z.1 2 p ≠ 50 + 43 := fun q => h1 ((km_iff hk (show ((43 : Int32), (93 : Int32)) ∈ KM by decide)).mpr q)
      by_cases h2 : a = 45
      · rw [if_pos h2] at h; exact absurd h (by simp)
      · have q2 : z.1 2 p ≠ 50 + 45 := fun q => h2 ((km_iff hk (show ((45 : Int32), (95 : Int32)) ∈ KM by decide)).mpr q)
        rw [f_X10_isSum_L9]
        rw [sg_is, is_f hz hp q, obF]
        dsimp only
        rw [sg_is, is_f hz hp q2, obF]
theorem sm_sum {N F S d : Nat} {R : XS → Bool × XS} {P : XS → Option (Bool × XS)} (hR : Sm false R P N F S d) : Sm false (sumU R) (f_X10_isSum (f_X10_isProduct P)) N F S d := sm_sum1 (sm_product hR)
theorem deep_t {z : XS} {p d : Nat} (hz : z.1 0 9 = nI p) (hd : z.1 0 10 = nI d) (h : d < 8) : f_X10_isDeeper z = some (true, setI (setI z 0 10 (nI (d + 1))) 0 9 (nI (p + 1))) := by
  unfold f_X10_isDeeper
  rw [hd, if_neg (fun (q : nI d = 8) => by have := (nI_inj (b := 8) (by omega) (by omega)).mp q; omega), show nI d + 1 = nI (d + 1) from nI_addN d 1, rdI_nk (by decide), hz, show nI p + 1 = nI (p + 1) from nI_addN p 1]
theorem deep_f {z : XS} (hd : z.1 0 10 = nI 8) : f_X10_isDeeper z = some (false, z) := by
  unfold f_X10_isDeeper
  rw [hd, if_pos (show nI 8 = 8 from rfl)]
theorem st_deep {N F S : Nat} {x z : XS} {cf : Nat → Int32} {p c e o d : Nat} (h : St N F S x z cf p c e o d) (hp : p + 1 < N) : Go N F S x z cf p c e o (adv x) (setI (setI z 0 10 (nI (d + 1))) 0 9 (nI (p + 1))) cf (p + 1) c e o (d + 1) :=
  (st_dep (d + 1) h).trans (st_adv (st_dep (d + 1) h).st hp)
theorem up_eq {N F S : Nat} {x z : XS} {cf : Nat → Int32} {p c e o d : Nat} (h : St N F S x z cf p c e o (d + 1)) : setI z 0 10 (z.1 0 10 - 1) = setI z 0 10 (nI d) := by
  have e1 : z.1 0 10 = nI (d + 1) := h.2.2.2.2.2.2.2.2.1
  rw [e1, show nI (d + 1) = nI d + 1 from (nI_addN d 1).symm, Int32.add_sub_cancel]
theorem deepU_t {x : XS} {kd : Int32} {d : Nat} (h : curK x = kd) (hd : d < 8) : deepU x kd (nI d) = (true, adv x) := by
  unfold deepU
  rw [if_neg (fun (q : 8 ≤ nI d) => by have := (nI_leq (a := 8) (by omega) (by omega)).mp q; omega), next_t h, if_pos rfl]
theorem deepU_f {x : XS} {kd : Int32} : deepU x kd (nI 8) = (false, x) := by
  unfold deepU
  rw [if_pos (show (8 : Int32) ≤ nI 8 by decide)]
theorem deepU_k {x : XS} {kd : Int32} {d : Nat} (h : curK x ≠ kd) : deepU x kd (nI d) = (false, x) := by
  unfold deepU
  split
  · rfl
  · rw [next_f h, if_neg (by decide)]
