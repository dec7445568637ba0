/-! The digest depends on the book, on what stands, on the days and the orders carried out alone -/
def dgI (v : Int32) (acc : Int64) : Int64 := acc * 31 + v.toInt64
def dgS (b : Bok) (m : Nat) : Nat → Nat → Int64 → Int64
  | 0, _, acc => acc
  | k + 1, j, acc => dgS b m k (j + 1) (dgI (b2i (m.testBit j)) (dgI (nI (b2 b j)) (dgI (nI (b1 b j)) (dgI (nI (bk b j)) acc))))
def dgC (b : Bok) (m : Nat) : Nat → Nat → Int64 → Int64
  | 0, _, acc => acc
  | k + 1, j, acc => dgC b m k (j + 1) (dgI (nI (nW b m j)) (dgI (nI (lst (RB b m) j)) (dgI (nI (fb_ct (RB b m j) (2 * bF b))) acc)))
def dgP (t : Nat) : Nat → Nat → Int64 → Int64
  | 0, _, acc => acc
  | k + 1, j, acc => dgP t k (j + 1) (dgI (b2i (t.testBit j)) acc)
section DG
variable {b : Bok} {m dy ca : Nat} {x : XS}
theorem dg_st : ∀ (n j : Nat) (acc : Int64) (x : XS), Cls b m dy ca x → bS b - j < n → j ≤ bS b → f_X8_digestStatements_L5 n acc (nI j) x = some (dgS b m (bS b - j) j acc, x)
  | 0, _, _, _, _, h, _ => absurd h (Nat.not_lt_zero _)
  | n + 1, j, acc, x, hB, hn, hj => by
    have hS := hB.bw.2.1
    rw [f_X8_digestStatements_L5, hB.xS]
    by_cases hd : bS b ≤ j
    · rw [if_pos ((nI_leq (by omega) (by omega)).mpr hd), show bS b - j = 0 by omega]; rfl
    · have K := hB.1.2.2.2.1 j (by omega)
      rw [if_neg (fun h => hd ((nI_leq (by omega) (by omega)).mp h)), hB.has (by omega), entI_nI (show j < 20 by omega) (by decide), entI_nI (show j < 20 by omega) (by decide), entI_nI (show j < 20 by omega) (by decide), K.1, K.2.1, K.2.2, nI_1, show bS b - j = (bS b - (j + 1)) + 1 by omega]
      cases hb : m.testBit j with
      | false => rw [if_pos (show b2i false = 0 by decide), dg_st n (j + 1) _ x hB (by omega) (by omega), dgS, hb]; rfl
      | true => rw [if_neg (show ¬ b2i true = 0 by decide), dg_st n (j + 1) _ x hB (by omega) (by omega), dgS, hb]; rfl
theorem what_v (h : Cls b m dy ca x) {c : Nat} (hc : c < 2 * bF b) : bcI (reachF x (x.1 46 1) (nI c)) = nI (fb_ct (RB b m c) (2 * bF b)) := by
  obtain ⟨x', e, -⟩ := q_what h hc
  unfold f_X8_whatFollowsFrom at e
  rw [h.needC hc, ob_some1, rbo_inr1] at e
  injection e with e
  injection e with e
  injection e with e _
  injection e with e
  injection e
theorem part_v (h : Cls b m dy ca x) {c : Nat} (hc : c < 2 * bF b) : lowI (togetherF (webLook (x.1 46 1) x) (nI c)) = nI (lst (RB b m) c) := by
  obtain ⟨w1, w2⟩ := h.webx
  have hF := h.bw.1
  rw [part_no (by omega) w2.2.2.1 w2.1 hc (RR_refl c)]
theorem dg_cl : ∀ (n j : Nat) (acc : Int64) (x : XS), Cls b m dy ca x → 2 * bF b - j < n → j ≤ 2 * bF b → ∃ x', f_X8_digestClaims_L5 n acc (nI j) x = some (dgC b m (2 * bF b - j) j acc, x') ∧ Cls b m dy ca x'
  | 0, _, _, _, _, h, _ => absurd h (Nat.not_lt_zero _)
  | n + 1, j, acc, x, hB, hn, hj => by
    have hF := hB.bw.1
    rw [f_X8_digestClaims_L5, hB.xF, two_nI]
    by_cases hd : 2 * bF b ≤ j
    · rw [if_pos ((nI_leq (by omega) (by omega)).mpr hd), show 2 * bF b - j = 0 by omega]; exact ⟨x, rfl, hB⟩
    · have w1 := hB.webx.1
      have w2 := w1.webx.1
      rw [if_neg (fun h => hd ((nI_leq (by omega) (by omega)).mp h)), what_v hB (by omega), part_v w1 (by omega), w2.cntw (by omega), nI_1, show 2 * bF b - j = (2 * bF b - (j + 1)) + 1 by omega]
      exact dg_cl n (j + 1) _ _ w2.landx (by omega) (by omega)
theorem dg_pc {t : Nat} (ht : t < 2 ^ 32) : ∀ (n j : Nat) (acc : Int64) (x : XS), Cls b m dy ca x → bF b - j < n → j ≤ bF b → f_X8_digestPeace_L40 n acc (nI t) (nI j) x = some (dgP t (bF b - j) j acc, x)
  | 0, _, _, _, _, h, _ => absurd h (Nat.not_lt_zero _)
  | n + 1, j, acc, x, hB, hn, hj => by
    have hF := hB.bw.1
    rw [f_X8_digestPeace_L40, hB.xF]
    by_cases hd : bF b ≤ j
    · rw [if_pos ((nI_leq (by omega) (by omega)).mpr hd), show bF b - j = 0 by omega]; rfl
    · rw [if_neg (fun h => hd ((nI_leq (by omega) (by omega)).mp h)), hasB_bit (by omega), bit_nI ht, nI_1, show bF b - j = (bF b - (j + 1)) + 1 by omega]
      cases hb : t.testBit j with
      | false => rw [if_pos (show b2i false = 0 by decide), dg_pc ht n (j + 1) _ x hB (by omega) (by omega), dgP, hb]; rfl
      | true => rw [if_neg (show ¬ b2i true = 0 by decide), dg_pc ht n (j + 1) _ x hB (by omega) (by omega), dgP, hb]; rfl
theorem q_digest (b : Bok) (m dy ca : Nat) : ∃ v : Int64, ∀ x, Cls b m dy ca x → ∃ x', f_X8_digest x = some (v, x') ∧ Cls b m dy ca x' := by
  by_cases hx : ∃ x, Cls b m dy ca x
  · obtain ⟨x0, h0⟩ := hx
    obtain ⟨-, t, -, t2, t3⟩ := h0.ridx
    let a0 : Int64 := dgI (nI (nP b m)) (dgI (nI (pN (bF b) (RB b m))) (dgI (nI (nS b m)) (dgI 0 (dgI (nI ca) (dgI (nI dy) (dgI (nI (bM b)) (dgI (nI (bS b)) (dgI (nI (bF b)) 947))))))))
    let a1 : Int64 := dgC b m (2 * bF b) 0 (dgS b m (bS b) 0 a0)
    refine ⟨if nP b m = 0 then a1 else dgP t (bF b) 0 a1, fun x h => ?_⟩
    have hF := h.bw.1
    have hS := h.bw.2.1
    have hb := nP_le h.bw m
    have w1 := h.webx.1
    have l1 := w1.landx
    unfold f_X8_digest
    rw [h.xF, h.xS, h.1.2.2.2.2.1.1, h.2.2.2.1, h.2.2.2.2, h.1.2.2.2.2.2.1, w1.cnt, h.webx.2.2.2.2, h.s1, bc_nS h.bw h.2.1]
    rw [h.s1] at w1 l1
    have hst := dg_st (b := b) (m := m) 30 0 a0 _ l1 (by omega) (Nat.zero_le _)
    obtain ⟨x2, e2, c2⟩ := dg_cl (b := b) (m := m) 30 0 (dgS b m (bS b) 0 a0) _ l1 (by omega) (Nat.zero_le _)
    unfold f_X8_digestStatements
    refine Exists.imp (fun _ q => q) ?_
    have hst' : f_X8_digestStatements_L5 30 a0 0 (landLook ((webLook (nI m) x).1 46 1) (webLook (nI m) x)) = some (dgS b m (bS b) 0 a0, landLook ((webLook (nI m) x).1 46 1) (webLook (nI m) x)) := hst
    have e2' : f_X8_digestClaims_L5 30 (dgS b m (bS b) 0 a0) 0 (landLook ((webLook (nI m) x).1 46 1) (webLook (nI m) x)) = some (a1, x2) := e2
    have goal : ∃ x', ob (f_X8_digestStatements_L5 30 a0 0 (landLook ((webLook (nI m) x).1 46 1) (webLook (nI m) x))) (fun u158 => ob (f_X8_digestClaims u158.1 u158.2) (fun u164 => ob (f_X8_digestPeace u164.1 u164.2) (fun u170 => some (u170.1, u170.2)))) = some (if nP b m = 0 then a1 else dgP t (bF b) 0 a1, x') ∧ Cls b m dy ca x' := by
      rw [hst', ob_some1]
      unfold f_X8_digestClaims
      dsimp only
      rw [e2', ob_some1]
      unfold f_X8_digestPeace
      dsimp only
      rw [c2.cnt]
      by_cases hz : nP b m = 0
      · rw [if_pos ((nz_eq (by omega)).mpr hz), if_pos hz, ob_some1]
        exact ⟨_, rfl, c2.landx⟩
      · rw [if_neg (fun z => hz ((nz_eq (by omega)).mp z)), if_neg hz]
        obtain ⟨r1, u, u1, u2, u3⟩ := c2.landx.ridx
        have hp := dg_pc (b := b) (m := m) (t := t) (by omega) 30 0 a1 _ r1 (by omega) (Nat.zero_le _)
        rw [u1, best_uniq u3 t3]
        have hp' : f_X8_digestPeace_L40 30 a1 (nI t) 0 (ridersU (landLook (x2.1 46 1) x2) ((landLook (x2.1 46 1) x2).1 46 1)).2 = some (dgP t (bF b) 0 a1, (ridersU (landLook (x2.1 46 1) x2) ((landLook (x2.1 46 1) x2).1 46 1)).2) := hp
        rw [hp', ob_some1]
        exact ⟨_, rfl, r1⟩
    exact goal
  · exact ⟨0, fun x h => absurd ⟨x, h⟩ hx⟩
end DG
