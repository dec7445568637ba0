/-! The class's book by itself: what it holds, what it answers -/
/-- the code of an order's test: operation, two numbers -/
def cdT (b : Bok) (j : Nat) : List (Int32 × Int32 × Int32) :=
  let a := bo b j 3
  if bo b j 2 = 0 then [] else
  if bo b j 2 = 1 then [(315, 0, 0), (315, 0, 0), (259, 3, 0), (47, 0, 0), (259, 3, 0), (42, 0, 0), (45, 0, 0), (259, nI (a % 3), 0), (61, 0, 0)] else
  if bo b j 2 = 2 then [(319, nI (a % (2 * bF b)), 0)] else
  if bo b j 2 = 3 then [(320, nI (bo b j 4), 0), (323, 0, 0), (316, 0, 0), (259, nI a, 0), (60, 0, 0), (306, 0, 0)] else
  if bo b j 2 = 4 then [(321, nI (a % (2 * bF b)), nI (bo b j 4 % (2 * bF b))), (317, 0, 0), (259, nI (bo b j 5), 0), (62, 0, 0), (324, 0, 0)] else
  [(318, 0, 0), (259, 4, 0), (259, nI a, 0), (42, 0, 0), (256, 0, 0)]
/-- the code lies from s on -/
def CodeAt (x : XS) (s : Nat) (l : List (Int32 × Int32 × Int32)) : Prop := ∀ i, i < l.length → x.1 31 (s + i) = (l.getD i (0, 0, 0)).1 ∧ (((l.getD i (0, 0, 0)).1 = 259 ∨ (l.getD i (0, 0, 0)).1 = 319 ∨ (l.getD i (0, 0, 0)).1 = 320 ∨ (l.getD i (0, 0, 0)).1 = 321) → x.1 32 (s + i) = (l.getD i (0, 0, 0)).2.1) ∧ ((l.getD i (0, 0, 0)).1 = 321 → x.1 33 (s + i) = (l.getD i (0, 0, 0)).2.2)
def OrdC (b : Bok) (x : XS) : Prop := x.1 21 7 = nI (bM b) ∧ ∀ j, j < bM b → x.1 28 j = nI (bo b j 1) ∧ x.1 27 j = b2i (decide (bo b j 0 = 2)) ∧ ∃ s, x.1 29 j = nI s ∧ x.1 30 j = nI (s + (cdT b j).length) ∧ s + (cdT b j).length ≤ 400 ∧ CodeAt x s (cdT b j)
def KinC (b : Bok) (x : XS) : Prop := ∀ k, k < bS b → x.1 22 k = nI (bk b k) ∧ x.1 23 k = nI (b1 b k) ∧ x.1 24 k = nI (b2 b k)
def Base (b : Bok) (x : XS) : Prop := (BkX x (bF b) (bS b) (bl b) (br b) ∧ PeaB x (bF b) (bS b) (bl b) (br b)) ∧ (x.1 37 5 = -1 ∨ WebC x (bF b) (bS b) (bl b) (br b) (x.1 37 5)) ∧ (x.1 40 6 = -1 ∨ LandC x (bF b) (bS b) (bl b) (br b) (x.1 40 6)) ∧ KinC b x ∧ OrdC b x ∧ x.1 1 1 = 0 ∧ BW b
def Cls (b : Bok) (m dy ca : Nat) (x : XS) : Prop := Base b x ∧ m < 2 ^ bS b ∧ x.1 46 1 = nI m ∧ x.1 46 0 = nI dy ∧ x.1 46 2 = nI ca
theorem OrdC_of {b : Bok} {x y : XS} (h : ∀ q k, q = 21 ∨ (27 ≤ q ∧ q ≤ 33) → y.1 q k = x.1 q k) (hO : OrdC b x) : OrdC b y := by
  refine ⟨by rw [h _ _ (by omega)]; exact hO.1, fun j hj => ?_⟩
  obtain ⟨h1, h2, s, h3, h4, h5, h6⟩ := hO.2 j hj
  refine ⟨by rw [h _ _ (by omega)]; exact h1, by rw [h _ _ (by omega)]; exact h2, s, by rw [h _ _ (by omega)]; exact h3, by rw [h _ _ (by omega)]; exact h4, h5, fun i hi => ?_⟩
  obtain ⟨g1, g2, g3⟩ := h6 i hi
  exact ⟨by rw [h _ _ (by omega)]; exact g1, fun z => by rw [h _ _ (by omega)]; exact g2 z, fun z => by rw [h _ _ (by omega)]; exact g3 z⟩
theorem Base.mv {b : Bok} {x y : XS} (h : Base b x) (hk : ∀ q, q < 37 → ∀ k, y.1 q k = x.1 q k) (h404 : y.1 40 4 = x.1 40 4) (h43 : ∀ k, y.2 43 k = x.2 43 k)
    (hw : y.1 37 5 = -1 ∨ WebC y (bF b) (bS b) (bl b) (br b) (y.1 37 5)) (hl : y.1 40 6 = -1 ∨ LandC y (bF b) (bS b) (bl b) (br b) (y.1 40 6)) : Base b y :=
  ⟨⟨BkX_of (fun q k hq => hk q (by omega) k) h.1.1, PeaB_of h404 h43 h.1.2⟩, hw, hl, fun k hks => by rw [hk 22 (by decide) k, hk 23 (by decide) k, hk 24 (by decide) k]; exact h.2.2.2.1 k hks, OrdC_of (fun q k hq => hk q (by omega) k) h.2.2.2.2.1, by rw [hk 1 (by decide)]; exact h.2.2.2.2.2.1, h.2.2.2.2.2.2⟩
theorem Base.land1 {b : Bok} {x : XS} (h : Base b x) {s : Int32} (hs : s ≠ -1) : Base b (landLook s x) ∧ LandC (landLook s x) (bF b) (bS b) (bl b) (br b) s := by
  obtain ⟨q1, q2⟩ := land_ok h.1.1 h.1.2 h.2.2.1 hs
  refine ⟨h.mv (fun q hq k => land_1 (by omega)) (land_40 (by decide) (by decide)) (fun k => land_2 (by decide)) ?_ (Or.inr (by rw [q2]; exact q1)), q1⟩
  rw [land_1 (by decide)]
  exact h.2.1.imp id (WebC_of (fun q k hq => land_1 (by omega)))
theorem Base.web1 {b : Bok} {x : XS} (h : Base b x) {s : Int32} (hs : s ≠ -1) : Base b (webLook s x) ∧ WebC (webLook s x) (bF b) (bS b) (bl b) (br b) s := by
  obtain ⟨q1, q2⟩ := web_ok h.1.1 h.2.1 hs
  refine ⟨h.mv (fun q hq k => web_1 (by omega) (by omega) (by omega)) (web_1 (by decide) (by decide) (by decide)) (fun k => by rw [web_2]) (Or.inr (by rw [q2]; exact q1)) ?_, q1⟩
  rw [web_1 (by decide) (by decide) (by decide)]
  exact h.2.2.1.imp id (LandC_of (web_1 (by decide) (by decide) (by decide)) (fun k => by rw [web_2]))
theorem Base.rid1 {b : Bok} {x : XS} (h : Base b x) {s : Int32} (hs : s ≠ -1) : Base b (ridersU x s).2 ∧ (∀ k, (ridersU x s).2.1 46 k = x.1 46 k) ∧ ∃ t, (ridersU x s).1 = nI t ∧ t < 1024 ∧ Best (PA (bl b) (br b) s (bS b)) (2 ^ bF b) t := by
  obtain ⟨q1, q2, q3⟩ := riders_ok h.1.1 h.1.2 h.2.2.1 hs
  obtain ⟨h1, h2⟩ := h.land1 hs
  refine ⟨h1.mv (fun q hq k => by rw [q2]) (by rw [q2]) (fun k => q3 43 k (by decide)) ?_ ?_, fun k => by rw [q2]; exact land_1 (by decide), q1⟩
  · rw [q2]; exact h1.2.1.imp id (WebC_of (fun q k _ => by rw [q2]))
  · rw [q2]; exact h1.2.2.1.imp id (LandC_of (by rw [q2]) (fun k => q3 41 k (by decide)))
section CLS
variable {b : Bok} {m dy ca : Nat} {x : XS}
theorem Cls.bw (h : Cls b m dy ca x) : BW b := h.1.2.2.2.2.2.2
theorem Cls.xF (h : Cls b m dy ca x) : x.1 21 0 = nI (bF b) := h.1.1.1.2.2.1
theorem Cls.xS (h : Cls b m dy ca x) : x.1 21 1 = nI (bS b) := h.1.1.1.2.2.2.1
theorem Cls.m12 (h : Cls b m dy ca x) : m < 2 ^ 12 := Nat.lt_of_lt_of_le h.2.1 (Nat.pow_le_pow_right (by decide) h.bw.2.1)
theorem Cls.m32 (h : Cls b m dy ca x) : m < 2 ^ 32 := Nat.lt_of_lt_of_le h.m12 (by decide)
theorem Cls.ne (h : Cls b m dy ca x) : nI m ≠ -1 := nI_ne1 (Nat.lt_of_lt_of_le h.m12 (by decide))
theorem Cls.s1 (h : Cls b m dy ca x) : x.1 46 1 = nI m := h.2.2.1
theorem Cls.landx (h : Cls b m dy ca x) : Cls b m dy ca (landLook (x.1 46 1) x) := by
  refine ⟨(h.1.land1 (by rw [h.s1]; exact h.ne)).1, h.2.1, ?_, ?_, ?_⟩ <;> rw [land_1 (by decide)]
  · exact h.2.2.1
  · exact h.2.2.2.1
  · exact h.2.2.2.2
theorem Cls.webx (h : Cls b m dy ca x) : Cls b m dy ca (webLook (x.1 46 1) x) ∧ WebC (webLook (x.1 46 1) x) (bF b) (bS b) (bl b) (br b) (nI m) := by
  have hw := h.1.web1 (s := x.1 46 1) (by rw [h.s1]; exact h.ne)
  refine ⟨⟨hw.1, h.2.1, ?_, ?_, ?_⟩, by have := hw.2; rw [h.s1] at this ⊢; exact this⟩ <;> rw [web_1 (by decide) (by decide) (by decide)]
  · exact h.2.2.1
  · exact h.2.2.2.1
  · exact h.2.2.2.2
theorem Cls.ridx (h : Cls b m dy ca x) : Cls b m dy ca (ridersU x (x.1 46 1)).2 ∧ ∃ t, (ridersU x (x.1 46 1)).1 = nI t ∧ t < 1024 ∧ Best (Pm b m) (2 ^ bF b) t := by
  obtain ⟨h1, h2, h3⟩ := h.1.rid1 (s := x.1 46 1) (by rw [h.s1]; exact h.ne)
  refine ⟨⟨h1, h.2.1, by rw [h2]; exact h.2.2.1, by rw [h2]; exact h.2.2.2.1, by rw [h2]; exact h.2.2.2.2⟩, ?_⟩
  rw [h.s1] at h3 ⊢
  exact h3
def nP (b : Bok) (m : Nat) : Nat := fb_ct (Pm b m) (2 ^ bF b)
def nW (b : Bok) (m c : Nat) : Nat := fb_ct (fun p => Pm b m p && holdsP p c) (2 ^ bF b)
theorem nP_le (hW : BW b) (m : Nat) : nP b m ≤ 32 := Nat.le_trans (fb_ct_le _ _) (small_p2 _ hW.1.2)
theorem nW_le (hW : BW b) (m c : Nat) : nW b m c ≤ 32 := Nat.le_trans (fb_ct_le _ _) (small_p2 _ hW.1.2)
theorem Cls.cnt (h : Cls b m dy ca x) : countF x (x.1 46 1) = nI (nP b m) := by
  rw [h.s1]; exact count_eq h.1.1.1 h.1.1.2 h.1.2.2.1 h.ne
theorem Cls.cntw (h : Cls b m dy ca x) {c : Nat} (hc : c < 2 * bF b) : countWithF x (x.1 46 1) (nI c) = nI (nW b m c) := by
  rw [h.s1]; exact countWith_eq h.1.1.1 h.1.1.2 h.1.2.2.1 h.ne (by have := h.bw.1; omega)
theorem Cls.needC (h : Cls b m dy ca x) {c : Nat} (hc : c < 2 * bF b) : f_X8_needClaim (nI c) x = some (.inr (none, x)) := by
  unfold f_X8_needClaim
  have hF := h.bw.1
  rw [h.xF, two_nI, if_neg (nI_pos (by omega)), if_pos ((nI_ltI (by omega) (by omega)).mpr hc)]
theorem Cls.needS (h : Cls b m dy ca x) {k : Nat} (hk : k < bS b) : f_X8_needStatement (nI k) x = some (.inr (none, x)) := by
  unfold f_X8_needStatement
  have hS := h.bw.2.1
  rw [h.xS, if_neg (nI_pos (by omega)), if_pos ((nI_ltI (by omega) (by omega)).mpr hk)]
theorem Cls.has (h : Cls b m dy ca x) {k : Nat} (hk : k < 32) : hasB (x.1 46 1) (nI k) = m.testBit k := by
  rw [h.s1, hasB_bit hk, bit_nI h.m32]
theorem Cls.needP (h : Cls b m dy ca x) (hp : nP b m ≠ 0) : f_X8_needPeace x = some (.inr (none, landLook (x.1 46 1) x)) := by
  unfold f_X8_needPeace
  have := nP_le h.bw m
  rw [h.cnt, if_neg (fun z => hp ((nz_eq (by omega)).mp z))]
/-- an answer, and the book as it was -/
def Ans (b : Bok) (m dy ca : Nat) (r : Option RT) (v : Value) : Prop := ∃ x', r = some (.inr (some v, x')) ∧ Cls b m dy ca x'
def AnsI (b : Bok) (m dy ca : Nat) (r : Option (Int32 × XS)) (v : Int32) : Prop := ∃ x', r = some (v, x') ∧ Cls b m dy ca x'
theorem q_families (h : Cls b m dy ca x) : AnsI b m dy ca (f_X8_families x) (nI (bF b)) := ⟨x, by unfold f_X8_families; rw [h.xF], h⟩
theorem q_statements (h : Cls b m dy ca x) : AnsI b m dy ca (f_X8_statements x) (nI (bS b)) := ⟨x, by unfold f_X8_statements; rw [h.xS], h⟩
theorem q_orders (h : Cls b m dy ca x) : AnsI b m dy ca (f_X8_orders x) (nI (bM b)) := ⟨x, by unfold f_X8_orders; rw [h.1.2.2.2.2.1.1], h⟩
theorem q_days (h : Cls b m dy ca x) : AnsI b m dy ca (f_X8_days x) (nI dy) := ⟨x, by unfold f_X8_days; rw [h.2.2.2.1], h⟩
theorem q_carried (h : Cls b m dy ca x) : AnsI b m dy ca (f_X8_ordersCarriedOut x) (nI ca) := ⟨x, by unfold f_X8_ordersCarriedOut; rw [h.2.2.2.2], h⟩
theorem bc_ct (hm : m < 2 ^ 12) : bcI (nI m) = nI (fb_ct m.testBit 12) := by
  rw [bcI_ct]
  congr 1
  have e : (nI m).toUInt32.toNat = m := by
    show (BitVec.ofNat 32 m).toNat = m
    rw [BitVec.toNat_ofNat, Nat.mod_eq_of_lt (by omega)]
  rw [e, show (32 : Nat) = 12 + 20 from rfl, fb_ct_split]
  have : fb_ct (fun k => m.testBit (12 + k)) 20 = 0 := fb_ct_zero.mpr (fun k _ => Nat.testBit_lt_two_pow (Nat.lt_of_lt_of_le hm (Nat.pow_le_pow_right (by decide) (by omega))))
  rw [this, Nat.add_zero]
theorem ct_S {S : Nat} (hm : m < 2 ^ S) (hS : S ≤ 12) : fb_ct m.testBit 12 = fb_ct m.testBit S := by
  rw [show (12 : Nat) = S + (12 - S) by omega, fb_ct_split]
  have : fb_ct (fun k => m.testBit (S + k)) (12 - S) = 0 := fb_ct_zero.mpr (fun k _ => Nat.testBit_lt_two_pow (Nat.lt_of_lt_of_le hm (Nat.pow_le_pow_right (by decide) (by omega))))
  rw [this, Nat.add_zero]
def nS (b : Bok) (m : Nat) : Nat := fb_ct m.testBit (bS b)
theorem bc_nS (hW : BW b) (hm : m < 2 ^ bS b) : bcI (nI m) = nI (nS b m) := by
  rw [bc_ct (Nat.lt_of_lt_of_le hm (Nat.pow_le_pow_right (by decide) hW.2.1)), ct_S hm hW.2.1]; rfl
theorem q_standing (h : Cls b m dy ca x) : AnsI b m dy ca (f_X8_standing x) (nI (nS b m)) := ⟨x, by unfold f_X8_standing; rw [h.s1, bc_nS h.bw h.2.1], h⟩
theorem q_peaces (h : Cls b m dy ca x) : AnsI b m dy ca (f_X8_peaces x) (nI (nP b m)) := ⟨_, by unfold f_X8_peaces; rw [h.cnt], h.landx⟩
theorem q_isPeacePossible (h : Cls b m dy ca x) : ∃ x', f_X8_isPeacePossible x = some (decide (0 < nP b m), x') ∧ Cls b m dy ca x' := by
  refine ⟨_, ?_, h.landx⟩
  unfold f_X8_isPeacePossible
  have := nP_le h.bw m
  rw [h.cnt]
  by_cases hc : 0 < nP b m
  · rw [if_neg (fun z => by have := (nz_le (by omega)).mp z; omega), decide_eq_true hc]
  · rw [if_pos ((nz_le (n := nP b m) (by omega)).mpr (by omega)), decide_eq_false hc]
theorem q_parts (h : Cls b m dy ca x) : AnsI b m dy ca (f_X8_parts x) (nI (pN (bF b) (RB b m))) := by
  obtain ⟨w1, w2⟩ := h.webx
  exact ⟨_, by unfold f_X8_parts; rw [w2.2.2.2], w1⟩
theorem q_kindOf (h : Cls b m dy ca x) {k : Nat} (hk : k < bS b) : Ans b m dy ca (f_X8_kindOf (nI k) x) (.int (nI (bk b k))) := by
  refine ⟨x, ?_, h⟩
  unfold f_X8_kindOf
  rw [h.needS hk, ob_some1, rbo_inr1, entI_nI (by have := h.bw.2.1; omega) (by decide), (h.1.2.2.2.1 k hk).1]
theorem q_first (h : Cls b m dy ca x) {k : Nat} (hk : k < bS b) : Ans b m dy ca (f_X8_firstClaimOf (nI k) x) (.int (nI (b1 b k))) := by
  refine ⟨x, ?_, h⟩
  unfold f_X8_firstClaimOf
  rw [h.needS hk, ob_some1, rbo_inr1, entI_nI (by have := h.bw.2.1; omega) (by decide), (h.1.2.2.2.1 k hk).2.1]
theorem q_second (h : Cls b m dy ca x) {k : Nat} (hk : k < bS b) : Ans b m dy ca (f_X8_secondClaimOf (nI k) x) (.int (nI (b2 b k))) := by
  refine ⟨x, ?_, h⟩
  unfold f_X8_secondClaimOf
  rw [h.needS hk, ob_some1, rbo_inr1, entI_nI (by have := h.bw.2.1; omega) (by decide), (h.1.2.2.2.1 k hk).2.2]
theorem q_stands (h : Cls b m dy ca x) {k : Nat} (hk : k < bS b) : Ans b m dy ca (f_X8_stands (nI k) x) (.int (b2i (m.testBit k))) := by
  refine ⟨x, ?_, h⟩
  unfold f_X8_stands
  rw [h.needS hk, ob_some1, rbo_inr1, h.has (by have := h.bw.2.1; omega)]
theorem q_follows (h : Cls b m dy ca x) {c d : Nat} (hc : c < 2 * bF b) (hd : d < 2 * bF b) : Ans b m dy ca (f_X8_follows (nI c) (nI d) x) (.int (b2i (RB b m d c))) := by
  obtain ⟨w1, w2⟩ := h.webx
  have hF := h.bw.1
  refine ⟨_, ?_, w1⟩
  unfold f_X8_follows
  rw [h.needC hc, ob_some1, rbo_inr1, h.needC hd, ob_some1, rbo_inr1, reach_eq (by omega), hasB_bit (by omega), w2.2.2.1 d hd c (by omega)]
theorem q_what (h : Cls b m dy ca x) {c : Nat} (hc : c < 2 * bF b) : Ans b m dy ca (f_X8_whatFollowsFrom (nI c) x) (.int (nI (fb_ct (RB b m c) (2 * bF b)))) := by
  obtain ⟨w1, w2⟩ := h.webx
  have hF := h.bw.1
  refine ⟨_, ?_, w1⟩
  unfold f_X8_whatFollowsFrom
  rw [h.needC hc, ob_some1, rbo_inr1, reach_eq (by omega), bcI_bit]
  have e : fb_ct (bit ((webLook (x.1 46 1) x).1 39 c)) 32 = fb_ct (RB b m c) (2 * bF b) := by
    rw [fb_ct_cong (fun j hj => w2.2.2.1 c hc j hj), show (32 : Nat) = 2 * bF b + (32 - 2 * bF b) by omega, fb_ct_split]
    have hz : fb_ct (fun k => RR (bF b) (bS b) (bl b) (br b) (nI m) c (2 * bF b + k)) (32 - 2 * bF b) = 0 := fb_ct_zero.mpr (fun k _ => by
      unfold RR
      rw [clo_out (by omega) h.bw.lr _ _ _ (Or.inr (by omega))]
      exact decide_eq_false (by omega))
    rw [hz, Nat.add_zero]
  rw [e]
theorem q_partOf (h : Cls b m dy ca x) {c : Nat} (hc : c < 2 * bF b) : Ans b m dy ca (f_X8_partOf (nI c) x) (.int (nI (lst (RB b m) c))) := by
  obtain ⟨w1, w2⟩ := h.webx
  refine ⟨_, ?_, w1⟩
  unfold f_X8_partOf
  have hF := h.bw.1
  rw [h.needC hc, ob_some1, rbo_inr1, part_no (by omega) w2.2.2.1 w2.1 hc (RR_refl c)]
def nM (b : Bok) (m c : Nat) : Nat := fb_ct (fun i => RB b m i c && RB b m c i) (2 * bF b)
theorem q_partSize (h : Cls b m dy ca x) {c : Nat} (hc : c < 2 * bF b) : Ans b m dy ca (f_X8_partSize (nI c) x) (.int (nI (nM b m c))) := by
  obtain ⟨w1, w2⟩ := h.webx
  refine ⟨_, ?_, w1⟩
  unfold f_X8_partSize
  have hF := h.bw.1
  rw [h.needC hc, ob_some1, rbo_inr1, part_size (by omega) w2.2.2.1 w2.1 hc]
  rfl
theorem q_peacesWith (h : Cls b m dy ca x) {c : Nat} (hc : c < 2 * bF b) : Ans b m dy ca (f_X8_peacesWith (nI c) x) (.int (nI (nW b m c))) := by
  refine ⟨_, ?_, h.landx⟩
  unfold f_X8_peacesWith
  rw [h.needC hc, ob_some1, rbo_inr1, h.cntw hc]
theorem q_isPossible (h : Cls b m dy ca x) {c : Nat} (hc : c < 2 * bF b) : Ans b m dy ca (f_X8_isPossible (nI c) x) (.int (b2i (decide (0 < nW b m c)))) := by
  have hle := nW_le h.bw m c
  unfold f_X8_isPossible
  rw [h.needC hc, ob_some1, rbo_inr1, h.cntw hc]
  by_cases hp : 0 < nW b m c
  · rw [if_neg (fun z => by have := (nz_le (by omega)).mp z; omega), decide_eq_true hp]
    exact ⟨_, rfl, h.landx⟩
  · rw [if_pos ((nz_le (n := nW b m c) (by omega)).mpr (by omega)), decide_eq_false hp]
    exact ⟨_, rfl, h.landx⟩
theorem q_isSettled (h : Cls b m dy ca x) (hp : nP b m ≠ 0) {c : Nat} (hc : c < 2 * bF b) : Ans b m dy ca (f_X8_isSettled (nI c) x) (.int (b2i (decide (nW b m c = nP b m)))) := by
  have h1 := nW_le h.bw m c
  have h2 := nP_le h.bw m
  have hl := h.landx
  unfold f_X8_isSettled
  rw [h.needC hc, ob_some1, rbo_inr1, h.needP hp, ob_some1, rbo_inr1, hl.cntw hc, hl.landx.cnt]
  by_cases he : nW b m c = nP b m
  · rw [if_pos (by rw [he]), decide_eq_true he]
    exact ⟨_, rfl, hl.landx.landx⟩
  · rw [if_neg (fun z => he ((nI_eq (by omega) (by omega)).mp z)), decide_eq_false he]
    exact ⟨_, rfl, hl.landx.landx⟩
theorem q_ridesInPeace (h : Cls b m dy ca x) (hp : nP b m ≠ 0) {t f : Nat} (ht : Best (Pm b m) (2 ^ bF b) t) (hf : f < bF b) : Ans b m dy ca (f_X8_ridesInPeace (nI f) x) (.int (b2i (t.testBit f))) := by
  have hF := h.bw.1
  have hl := h.landx
  obtain ⟨r1, u, u1, u2, u3⟩ := hl.ridx
  refine ⟨_, ?_, r1⟩
  unfold f_X8_ridesInPeace
  rw [if_neg (nI_pos (by omega)), h.xF, if_pos ((nI_ltI (by omega) (by omega)).mpr hf), h.needP hp, ob_some1, rbo_inr1, u1, hasB_bit (by omega), bit_nI (by omega), best_uniq u3 ht]
theorem q_ridersInPeace (h : Cls b m dy ca x) (hp : nP b m ≠ 0) {t : Nat} (ht : Best (Pm b m) (2 ^ bF b) t) : Ans b m dy ca (f_X8_ridersInPeace x) (.int (nI (fb_ct t.testBit (bF b)))) := by
  have hF := h.bw.1
  have hl := h.landx
  obtain ⟨r1, u, u1, u2, u3⟩ := hl.ridx
  refine ⟨_, ?_, r1⟩
  unfold f_X8_ridersInPeace
  rw [h.needP hp, ob_some1, rbo_inr1, u1, best_uniq u3 ht]
  have ht2 : t < 2 ^ bF b := by
    rcases ht with ⟨_, e⟩ | ⟨e, _⟩
    · rw [e]; exact Nat.two_pow_pos _
    · exact e
  rw [bc_small (by have := small_p2 _ hF.2; omega), ride_F ht2 (by omega)]
end CLS
