/-! ===== how many places have a property ===== -/
def fb_ct (p : Nat → Bool) : Nat → Nat
  | 0 => 0
  | n + 1 => fb_ct p n + (if p n then 1 else 0)
theorem fb_ct_succ (p : Nat → Bool) (n : Nat) : fb_ct p (n + 1) = fb_ct p n + (if p n then 1 else 0) := rfl
theorem fb_ct_le (p : Nat → Bool) : ∀ n, fb_ct p n ≤ n
  | 0 => Nat.le_refl _
  | n + 1 => by
    have h := fb_ct_le p n
    rw [fb_ct_succ]
    split <;> omega
theorem fb_ct_step (p : Nat → Bool) (m : Nat) : ∀ n, fb_ct p m ≤ fb_ct p (m + n)
  | 0 => Nat.le_refl _
  | n + 1 => by
    have h := fb_ct_step p m n
    show fb_ct p m ≤ fb_ct p (m + n + 1)
    rw [fb_ct_succ]
    omega
theorem fb_ct_mono (p : Nat → Bool) {m n : Nat} (h : m ≤ n) : fb_ct p m ≤ fb_ct p n := by
  have := fb_ct_step p m (n - m)
  rwa [Nat.add_sub_cancel' h] at this
theorem fb_ct_cong {p q : Nat → Bool} : ∀ {n : Nat}, (∀ k, k < n → p k = q k) → fb_ct p n = fb_ct q n
  | 0, _ => rfl
  | n + 1, h => by
    rw [fb_ct_succ, fb_ct_succ, fb_ct_cong (fun k hk => h k (by omega)), h n (by omega)]
/-- one place changed -/
theorem fb_ct_out (p : Nat → Bool) (b : Bool) {i n : Nat} (h : n ≤ i) : fb_ct (fun k => if k = i then b else p k) n = fb_ct p n :=
  fb_ct_cong fun k hk => if_neg (by omega)
theorem fb_ct_upd (p : Nat → Bool) (b : Bool) {i : Nat} : ∀ {n : Nat}, i < n → fb_ct (fun k => if k = i then b else p k) n + (if p i then 1 else 0) = fb_ct p n + (if b then 1 else 0)
  | 0, h => absurd h (Nat.not_lt_zero i)
  | n + 1, h => by
    rw [fb_ct_succ, fb_ct_succ]
    rcases Nat.lt_or_ge i n with q | q
    · have := fb_ct_upd p b q
      have e : (if n = i then b else p n) = p n := if_neg (by omega)
      rw [e]
      omega
    · have e : i = n := by omega
      subst e
      rw [fb_ct_out p b (Nat.le_refl _)]
      simp only [if_true]
      omega
theorem fb_ct_sub {p q : Nat → Bool} : ∀ {n : Nat}, (∀ k, k < n → p k = true → q k = true) → fb_ct p n ≤ fb_ct q n
  | 0, _ => Nat.le_refl _
  | n + 1, h => by
    have h1 := fb_ct_sub (n := n) (p := p) (q := q) (fun k hk => h k (by omega))
    have h2 := h n (by omega)
    rw [fb_ct_succ, fb_ct_succ]
    cases hp : p n <;> cases hq : q n <;> simp_all <;> omega
theorem fb_ct_or {p q : Nat → Bool} : ∀ {n : Nat}, (∀ k, k < n → ¬ (p k = true ∧ q k = true)) → fb_ct (fun k => p k || q k) n = fb_ct p n + fb_ct q n
  | 0, _ => rfl
  | n + 1, h => by
    have h1 := fb_ct_or (n := n) (p := p) (q := q) (fun k hk => h k (by omega))
    have h2 := h n (by omega)
    rw [fb_ct_succ, fb_ct_succ, fb_ct_succ, h1]
    cases hp : p n <;> cases hq : q n <;> simp_all <;> omega
theorem fb_ct_not (p : Nat → Bool) : ∀ n, fb_ct p n + fb_ct (fun k => !p k) n = n
  | 0 => rfl
  | n + 1 => by
    have h := fb_ct_not p n
    rw [fb_ct_succ, fb_ct_succ]
    cases p n <;> simp <;> omega
theorem fb_ct_split (p : Nat → Bool) (m : Nat) : ∀ n, fb_ct p (m + n) = fb_ct p m + fb_ct (fun k => p (m + k)) n
  | 0 => rfl
  | n + 1 => by
    have h := fb_ct_split p m n
    show fb_ct p (m + n + 1) = _
    rw [fb_ct_succ, fb_ct_succ, h, Nat.add_assoc]
theorem fb_ct_zero {p : Nat → Bool} : ∀ {n : Nat}, fb_ct p n = 0 ↔ ∀ k, k < n → p k = false
  | 0 => ⟨fun _ k hk => absurd hk (Nat.not_lt_zero k), fun _ => rfl⟩
  | n + 1 => by
    have h := fb_ct_zero (p := p) (n := n)
    rw [fb_ct_succ]
    constructor
    · intro e k hk
      have e1 : fb_ct p n = 0 := by omega
      rcases Nat.lt_or_ge k n with q | q
      · exact h.mp e1 k q
      · have ek : k = n := by omega
        subst ek
        cases hp : p k
        · rfl
        · simp [hp] at e
    · intro a
      rw [h.mpr (fun k hk => a k (by omega)), a n (by omega)]
      rfl
theorem fb_ct_pos {p : Nat → Bool} {n : Nat} : 0 < fb_ct p n ↔ ∃ k, k < n ∧ p k = true := by
  constructor
  · intro h
    refine Classical.byContradiction fun hx => ?_
    have := fb_ct_zero.mpr (fun k hk => by
      cases hp : p k
      · rfl
      · exact absurd ⟨k, hk, hp⟩ hx : ∀ k, k < n → p k = false)
    omega
  · rintro ⟨k, hk, hp⟩
    rcases Nat.eq_zero_or_pos (fb_ct p n) with e | e
    · have := fb_ct_zero.mp e k hk
      rw [this] at hp
      cases hp
    · exact e
theorem fb_ct_all {p : Nat → Bool} {n : Nat} : fb_ct p n = n ↔ ∀ k, k < n → p k = true := by
  have h := fb_ct_not p n
  constructor
  · intro e k hk
    have z : fb_ct (fun k => !p k) n = 0 := by omega
    have := fb_ct_zero.mp z k hk
    cases hp : p k
    · simp [hp] at this
    · rfl
  · intro a
    have z : fb_ct (fun k => !p k) n = 0 := fb_ct_zero.mpr (fun k hk => by simp [a k hk])
    omega
def fb_sm (f : Nat → Nat) : Nat → Nat
  | 0 => 0
  | n + 1 => fb_sm f n + f n
theorem fb_sm_succ (f : Nat → Nat) (n : Nat) : fb_sm f (n + 1) = fb_sm f n + f n := rfl
theorem fb_sm_cong {f g : Nat → Nat} : ∀ {n : Nat}, (∀ k, k < n → f k = g k) → fb_sm f n = fb_sm g n
  | 0, _ => rfl
  | n + 1, h => by rw [fb_sm_succ, fb_sm_succ, fb_sm_cong (fun k hk => h k (by omega)), h n (by omega)]
theorem fb_sm_out (f : Nat → Nat) (v : Nat) {i n : Nat} (h : n ≤ i) : fb_sm (fun k => if k = i then v else f k) n = fb_sm f n :=
  fb_sm_cong fun k hk => if_neg (by omega)
theorem fb_sm_upd (f : Nat → Nat) (v : Nat) {i : Nat} : ∀ {n : Nat}, i < n → fb_sm (fun k => if k = i then v else f k) n + f i = fb_sm f n + v
  | 0, h => absurd h (Nat.not_lt_zero i)
  | n + 1, h => by
    rw [fb_sm_succ, fb_sm_succ]
    rcases Nat.lt_or_ge i n with q | q
    · have := fb_sm_upd f v q
      have e : (if n = i then v else f n) = f n := if_neg (by omega)
      rw [e]
      omega
    · have e : i = n := by omega
      subst e
      rw [fb_sm_out f v (Nat.le_refl _)]
      simp only [if_true]
      omega
theorem fb_sm_add (f g : Nat → Nat) : ∀ n, fb_sm (fun k => f k + g k) n = fb_sm f n + fb_sm g n
  | 0 => rfl
  | n + 1 => by
    have h := fb_sm_add f g n
    rw [fb_sm_succ, fb_sm_succ, fb_sm_succ, h]
    omega
theorem fb_sm_le {f g : Nat → Nat} : ∀ {n : Nat}, (∀ k, k < n → f k ≤ g k) → fb_sm f n ≤ fb_sm g n
  | 0, _ => Nat.le_refl _
  | n + 1, h => by
    have h1 := fb_sm_le (n := n) (f := f) (g := g) (fun k hk => h k (by omega))
    have h2 := h n (by omega)
    rw [fb_sm_succ, fb_sm_succ]
    omega
theorem fb_sm_const (c : Nat) : ∀ n, fb_sm (fun _ => c) n = n * c
  | 0 => by rw [Nat.zero_mul]; rfl
  | n + 1 => by rw [fb_sm_succ, fb_sm_const c n, Nat.succ_mul]
theorem fb_sm_bound {f : Nat → Nat} {c n : Nat} (h : ∀ k, k < n → f k ≤ c) : fb_sm f n ≤ n * c := by
  rw [← fb_sm_const c n]
  exact fb_sm_le h
theorem fb_sm_mono (f : Nat → Nat) (m : Nat) : ∀ n, fb_sm f m ≤ fb_sm f (m + n)
  | 0 => Nat.le_refl _
  | n + 1 => by
    have h := fb_sm_mono f m n
    show fb_sm f m ≤ fb_sm f (m + n + 1)
    rw [fb_sm_succ]
    omega
theorem fb_sm_part (f : Nat → Nat) {i n : Nat} (h : i < n) : fb_sm f i + f i ≤ fb_sm f n := by
  have := fb_sm_mono f (i + 1) (n - (i + 1))
  rw [fb_sm_succ, show i + 1 + (n - (i + 1)) = n by omega] at this
  exact this
theorem fb_sm_split (f : Nat → Nat) (m : Nat) : ∀ n, fb_sm f (m + n) = fb_sm f m + fb_sm (fun k => f (m + k)) n
  | 0 => rfl
  | n + 1 => by
    have h := fb_sm_split f m n
    show fb_sm f (m + n + 1) = _
    rw [fb_sm_succ, fb_sm_succ, h, Nat.add_assoc]
theorem fb_sm_zero {f : Nat → Nat} {n : Nat} (h : fb_sm f n = 0) : ∀ k, k < n → f k = 0 := fun k hk => by
  have := fb_sm_part f hk
  omega

/-! bit counts: the numbers behind Integer.bitCount and Long.bitCount -/
theorem and_blk {m a b c d : Nat} (ha : a < 2 ^ m) (hc : c < 2 ^ m) : (a + 2 ^ m * b) &&& (c + 2 ^ m * d) = (a &&& c) + 2 ^ m * (b &&& d) := by
  apply Nat.eq_of_testBit_eq
  intro j
  rw [Nat.testBit_and, Nat.add_comm a, Nat.add_comm c, Nat.add_comm (a &&& c), Nat.testBit_two_pow_mul_add _ ha, Nat.testBit_two_pow_mul_add _ hc, Nat.testBit_two_pow_mul_add _ (Nat.and_lt_two_pow _ hc)]
  split <;> rw [Nat.testBit_and]
def msk (c : Nat) : Nat → Nat
  | 0 => 0
  | k + 1 => c + 256 * msk c k
def val : List Nat → Nat
  | [] => 0
  | b :: l => b + 256 * val l
def sh1 (b : Nat) : Nat := b - ((b / 2) &&& 85)
def sh2 (b : Nat) : Nat := (b &&& 51) + ((b / 4) &&& 51)
def sh3 (b : Nat) : Nat := (b + b / 16) &&& 15
theorem sh1_c : ∀ b, b < 256 → ∀ r, r < 2 → ((b / 2 + 128 * r) &&& 85) = ((b / 2) &&& 85) ∧ ((b / 2) &&& 85) ≤ b := by decide +kernel
theorem sh2_c : ∀ b, b < 256 → ∀ r, r < 4 → ((b / 4 + 64 * r) &&& 51) = ((b / 4) &&& 51) := by decide +kernel
theorem sh3_c : ∀ b, b < 80 → ∀ r, r < 16 → ((b + b / 16 + 16 * r) &&& 15) = sh3 b := by decide +kernel
theorem sh_all : ∀ b, b < 256 → sh1 b < 256 ∧ sh2 (sh1 b) % 16 ≤ 4 ∧ sh2 (sh1 b) / 16 ≤ 4 ∧ sh2 (sh1 b) < 80 ∧ sh3 (sh2 (sh1 b)) = fb_ct b.testBit 8 ∧ sh3 (sh2 (sh1 b)) ≤ 8 := by decide +kernel
theorem and_blk8 {a b c d : Nat} (ha : a < 256) (hc : c < 256) : (a + 256 * b) &&& (c + 256 * d) = (a &&& c) + 256 * (b &&& d) := and_blk (m := 8) ha hc
theorem val_1 : ∀ l : List Nat, (∀ b ∈ l, b < 256) → ((val l / 2) &&& msk 85 l.length) ≤ val l ∧ val l - ((val l / 2) &&& msk 85 l.length) = val (l.map sh1)
  | [], _ => ⟨Nat.le_refl _, rfl⟩
  | b :: l, h => by
    have hb := h b List.mem_cons_self
    obtain ⟨h1, h2⟩ := val_1 l (fun c hc => h c (List.mem_cons_of_mem _ hc))
    have e : (b + 256 * val l) / 2 = (b / 2 + 128 * (val l % 2)) + 256 * (val l / 2) := by omega
    obtain ⟨q1, q2⟩ := sh1_c b hb (val l % 2) (Nat.mod_lt _ (by decide))
    show (((b + 256 * val l) / 2) &&& (85 + 256 * msk 85 l.length)) ≤ b + 256 * val l ∧ (b + 256 * val l) - (((b + 256 * val l) / 2) &&& (85 + 256 * msk 85 l.length)) = sh1 b + 256 * val (l.map sh1)
    rw [e, and_blk8 (by omega) (by decide), q1, ← h2]
    unfold sh1
    omega
theorem val_2 : ∀ l : List Nat, (∀ b ∈ l, b < 256) → (val l &&& msk 51 l.length) + ((val l / 4) &&& msk 51 l.length) = val (l.map sh2)
  | [], _ => rfl
  | b :: l, h => by
    have hb := h b List.mem_cons_self
    have h2 := val_2 l (fun c hc => h c (List.mem_cons_of_mem _ hc))
    have e : (b + 256 * val l) / 4 = (b / 4 + 64 * (val l % 4)) + 256 * (val l / 4) := by omega
    have q1 := sh2_c b hb (val l % 4) (Nat.mod_lt _ (by decide))
    show ((b + 256 * val l) &&& (51 + 256 * msk 51 l.length)) + (((b + 256 * val l) / 4) &&& (51 + 256 * msk 51 l.length)) = sh2 b + 256 * val (l.map sh2)
    rw [e, and_blk8 hb (by decide), and_blk8 (by omega) (by decide), q1, ← h2]
    unfold sh2
    omega
theorem val_lo : ∀ l : List Nat, (∀ b ∈ l, b % 16 ≤ 4) → val l % 16 ≤ 4
  | [], _ => by decide
  | b :: l, h => by
    have := h b List.mem_cons_self
    show (b + 256 * val l) % 16 ≤ 4
    omega
theorem val_3 : ∀ l : List Nat, (∀ b ∈ l, b % 16 ≤ 4 ∧ b / 16 ≤ 4 ∧ b < 80) → ((val l + val l / 16) &&& msk 15 l.length) = val (l.map sh3)
  | [], _ => rfl
  | b :: l, h => by
    obtain ⟨g1, g2, g3⟩ := h b List.mem_cons_self
    have h2 := val_3 l (fun c hc => h c (List.mem_cons_of_mem _ hc))
    have h4 := val_lo l (fun c hc => (h c (List.mem_cons_of_mem _ hc)).1)
    have e : (b + 256 * val l) + (b + 256 * val l) / 16 = (b + b / 16 + 16 * (val l % 16)) + 256 * (val l + val l / 16) := by omega
    have q1 := sh3_c b g3 (val l % 16) (Nat.mod_lt _ (by decide))
    show (((b + 256 * val l) + (b + 256 * val l) / 16) &&& (15 + 256 * msk 15 l.length)) = sh3 b + 256 * val (l.map sh3)
    rw [e, and_blk8 (by omega) (by decide), q1, h2]
def bytesN : Nat → Nat → List Nat
  | 0, _ => []
  | k + 1, n => n % 256 :: bytesN k (n / 256)
theorem bytes_len : ∀ k n, (bytesN k n).length = k
  | 0, _ => rfl
  | k + 1, n => congrArg (· + 1) (bytes_len k (n / 256))
theorem bytes_lt : ∀ k n, ∀ b ∈ bytesN k n, b < 256
  | 0, _, b, h => absurd h List.not_mem_nil
  | k + 1, n, b, h => by
    rcases List.mem_cons.mp h with rfl | h
    · exact Nat.mod_lt _ (by decide)
    · exact bytes_lt k _ b h
theorem bytes_val : ∀ k n, n < 256 ^ k → val (bytesN k n) = n
  | 0, n, h => by have : n = 0 := by simpa using h
                  subst this; rfl
  | k + 1, n, h => by
    have h1 : n / 256 < 256 ^ k := by
      rw [Nat.pow_succ] at h
      exact Nat.div_lt_of_lt_mul (by omega)
    show n % 256 + 256 * val (bytesN k (n / 256)) = n
    rw [bytes_val k _ h1]
    omega
def sumN : List Nat → Nat
  | [] => 0
  | b :: l => b + sumN l
theorem bytes_ct : ∀ k n, sumN ((bytesN k n).map (fun b => fb_ct b.testBit 8)) = fb_ct n.testBit (8 * k)
  | 0, n => rfl
  | k + 1, n => by
    show fb_ct (n % 256).testBit 8 + sumN ((bytesN k (n / 256)).map (fun b => fb_ct b.testBit 8)) = fb_ct n.testBit (8 * (k + 1))
    rw [bytes_ct k, show 8 * (k + 1) = 8 + 8 * k by omega, fb_ct_split]
    congr 1
    · refine fb_ct_cong fun j hj => ?_
      rw [show n % 256 = n % 2 ^ 8 from rfl, Nat.testBit_mod_two_pow]
      simp [hj]
    · refine fb_ct_cong fun j hj => ?_
      rw [← Nat.testBit_shiftRight, Nat.shiftRight_eq_div_pow]
theorem bytes_pc (k n : Nat) : (((bytesN k n).map sh1).map sh2).map sh3 = (bytesN k n).map (fun b => fb_ct b.testBit 8) := by
  rw [List.map_map, List.map_map]
  refine List.map_congr_left fun b hb => ?_
  exact (sh_all b (bytes_lt k n b hb)).2.2.2.2.1
/-- the first three steps of both -/
theorem three (k n : Nat) (hn : n < 256 ^ k) : ((n / 2) &&& msk 85 k) ≤ n ∧
    (let a := n - ((n / 2) &&& msk 85 k); let b := (a &&& msk 51 k) + ((a / 4) &&& msk 51 k); ((b + b / 16) &&& msk 15 k) = val ((bytesN k n).map (fun b => fb_ct b.testBit 8)) ∧ a = val ((bytesN k n).map sh1) ∧ b = val (((bytesN k n).map sh1).map sh2)) := by
  have hl := bytes_lt k n
  obtain ⟨h1, h2⟩ := val_1 _ hl
  rw [bytes_len, bytes_val k n hn] at h1 h2
  refine ⟨h1, ?_⟩
  have h3 := val_2 ((bytesN k n).map sh1) (fun b hb => by
    obtain ⟨c, hc, rfl⟩ := List.mem_map.mp hb
    exact (sh_all c (hl c hc)).1)
  rw [List.length_map, bytes_len, ← h2] at h3
  have h4 := val_3 (((bytesN k n).map sh1).map sh2) (fun b hb => by
    obtain ⟨c, hc, rfl⟩ := List.mem_map.mp hb
    obtain ⟨d, hd, rfl⟩ := List.mem_map.mp hc
    exact ⟨(sh_all d (hl d hd)).2.1, (sh_all d (hl d hd)).2.2.1, (sh_all d (hl d hd)).2.2.2.1⟩)
  rw [List.length_map, List.length_map, bytes_len, bytes_pc, ← h3] at h4
  exact ⟨h4, h2, h3⟩
theorem pc8 {l : List Nat} {k n : Nat} (h : l = (bytesN k n).map (fun b => fb_ct b.testBit 8)) : ∀ p ∈ l, p ≤ 8 := by
  subst h
  intro p hp
  obtain ⟨c, hc, rfl⟩ := List.mem_map.mp hp
  exact fb_ct_le _ 8
