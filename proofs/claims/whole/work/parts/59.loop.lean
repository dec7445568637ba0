
/-! The law's loop, over what is to be shown of each call -/
/-- the reference's cells as its constructor makes them, in the layout's order -/
def tauN (j : Nat) : Nat := if j < 7 then j else if j < 11 then j + 10 else if j < 21 then j - 4 else 7
def tauX (z : XS) : XS := (fun j k => z.1 (tauN j) k, fun j k => z.2 (tauN j) k)
def Spec (I : XS → XS → Prop) : Prop := Cong I ∧ MKs I ∧ I (i_X8_init (clr x00 0)) (tauX (i_X10_init (pul 48 (clr (i_X8_init (clr x00 0)) 48)))) ∧
  (∀ p q r s t : Int32, AgT I code1 cvI (fun E => E = "java/lang/IllegalStateException") (f_X8_feed p q r s t) (f_X10_feed p q r s t)) ∧
  (∀ p : Int32, AgT I code1 cvI (fun E => E = "java/lang/IllegalArgumentException") (f_X8_trim p) (f_X10_trim p)) ∧
  (AgN I (fun x => some ((readF (setI (scanF x) 1 1 0)).1 34 5, teachF x)) f_X10_teach) ∧
  (AgN I f_X8_errorAt (fun z => some (z.1 0 3, r0 z))) ∧
  (AgN I f_X8_families (fun z => some (z.1 11 0, r0 z))) ∧
  (AgN I f_X8_statements (fun z => some (z.1 11 1, r0 z))) ∧
  (AgN I f_X8_orders (fun z => some (z.1 11 5, r0 z))) ∧
  (AgN I f_X8_days (fun z => some (z.1 0 13, r0 z))) ∧
  (AgN I f_X8_ordersCarriedOut (fun z => some (z.1 0 14, r0 z))) ∧
  (AgN I f_X8_tapeBytes (fun z => some (z.1 0 2, r0 z))) ∧
  (AgN I f_X8_standing (fun z => some (bcI (z.1 0 15), r0 z))) ∧
  (∀ p : Int32, AgT I code1 cvI (fun E => E = "java/lang/IndexOutOfBoundsException") (f_X8_kindOf p) (fun z => some (kindU p (r0 z)))) ∧
  (∀ p : Int32, AgT I code1 cvI (fun E => E = "java/lang/IndexOutOfBoundsException") (f_X8_firstClaimOf p) (fun z => some (fstU 13 p (r0 z)))) ∧
  (∀ p : Int32, AgT I code1 cvI (fun E => E = "java/lang/IndexOutOfBoundsException") (f_X8_secondClaimOf p) (fun z => some (fstU 14 p (r0 z)))) ∧
  (∀ p : Int32, AgT I code1 cvB (fun E => E = "java/lang/IndexOutOfBoundsException") (f_X8_stands p) (mb (fun z => some (stdU p (r0 z))))) ∧
  (∀ p : Int32, AgT I code2 cvB (fun E => E = "java/lang/IndexOutOfBoundsException" ∨ E = "java/lang/IllegalStateException") (f_X8_isNeedless p) (mb (fun z => some (needU p (r0 z))))) ∧
  (∀ p q : Int32, AgT I code1 cvB (fun E => E = "java/lang/IndexOutOfBoundsException") (f_X8_follows p q) (mb (fun z => some (folU p q (r0 z))))) ∧
  (∀ p : Int32, AgT I code1 cvI (fun E => E = "java/lang/IndexOutOfBoundsException") (f_X8_whatFollowsFrom p) (fun z => some (whaU p (r0 z)))) ∧
  (∀ p q : Int32, AgT I code2 cvI (fun E => E = "java/lang/IndexOutOfBoundsException" ∨ E = "java/lang/IllegalStateException") (f_X8_fewestStatementsBetween p q) (f_X10_fewestStatementsBetween p q)) ∧
  (AgN I f_X8_parts (fun z => some ((mfol z).1 0 23, r0 (mfol z)))) ∧
  (∀ p : Int32, AgT I code1 cvI (fun E => E = "java/lang/IndexOutOfBoundsException") (f_X8_partOf p) (fun z => some (paoU p (r0 z)))) ∧
  (∀ p : Int32, AgT I code1 cvI (fun E => E = "java/lang/IndexOutOfBoundsException") (f_X8_partSize p) (fun z => some (pasU p (r0 z)))) ∧
  (AgN I f_X8_isPeacePossible f_X10_isPeacePossible) ∧
  (AgN I f_X8_peaces (fun z => some ((mlook (z.1 0 15) z).1 0 18, r0 (mlook (z.1 0 15) z)))) ∧
  (∀ p : Int32, AgT I code1 cvI (fun E => E = "java/lang/IndexOutOfBoundsException") (f_X8_peacesWith p) (fun z => some (pewU p (r0 z)))) ∧
  (∀ p : Int32, AgT I code1 cvB (fun E => E = "java/lang/IndexOutOfBoundsException") (f_X8_isPossible p) (mb (fun z => some (posU p (r0 z))))) ∧
  (∀ p : Int32, AgT I code2 cvB (fun E => E = "java/lang/IndexOutOfBoundsException" ∨ E = "java/lang/IllegalStateException") (f_X8_isSettled p) (mb (f_X10_isSettled p))) ∧
  (∀ p : Int32, AgT I code2 cvB (fun E => E = "java/lang/IndexOutOfBoundsException" ∨ E = "java/lang/IllegalStateException") (f_X8_ridesInPeace p) (mb (f_X10_ridesInPeace p))) ∧
  (AgT I code1 cvI (fun E => E = "java/lang/IllegalStateException") (f_X8_ridersInPeace ) (f_X10_ridersInPeace )) ∧
  (AgT I code1 cvI (fun E => E = "java/lang/IllegalStateException") (f_X8_blamedFamily ) (f_X10_blamedFamily )) ∧
  (∀ p : Int32, AgT I code2 cvI (fun E => E = "java/lang/IndexOutOfBoundsException" ∨ E = "java/lang/IllegalStateException") (f_X8_breakStatement p) (f_X10_breakStatement p)) ∧
  (∀ p : Int32, AgT I code2 cvI (fun E => E = "java/lang/IndexOutOfBoundsException" ∨ E = "java/lang/IllegalStateException") (f_X8_renewStatement p) (f_X10_renewStatement p)) ∧
  (∀ p : Int32, AgT I code1 cvI (fun E => E = "java/lang/IllegalArgumentException") (f_X8_passDays p) (f_X10_passDays p)) ∧
  (∀ p : Int32, AgT I code1 cvI (fun E => E = "java/lang/IllegalArgumentException") (f_X8_standingAfter p) (f_X10_standingAfter p)) ∧
  (∀ p : Int32, AgT I code1 cvI (fun E => E = "java/lang/IllegalArgumentException") (f_X8_peacesAfter p) (f_X10_peacesAfter p)) ∧
  (AgN I f_X8_daysUntilPeace f_X10_daysUntilPeace) ∧
  (AgN I f_X8_fewestToBreak f_X10_fewestToBreak) ∧
  (AgT I code1 cvI (fun E => E = "java/lang/IllegalStateException") (f_X8_mostTellingOath ) (f_X10_mostTellingOath )) ∧
  (AgN I f_X8_meanRiders f_X10_meanRiders) ∧
  (AgN I f_X8_digest f_X10_digest)
set_option maxHeartbeats 4000000 in
set_option maxRecDepth 100000 in
theorem law_body {k : Kx} {nm : String} (hk : Fok k code 9 RL ret nm 1312 601000 7293000) (hNc : NcK k) (hfl : (kg k).1.stackTraces = false) {b M : Nat} {xs : Nat → Int32} (hsc : ScK k b M xs) {i : Int32} (hv0 : vp_in i M) (hv1 : vp_in (i + 1) M) (hv2 : vp_in (i + 2) M) (hv3 : vp_in (i + 3) M) (hv4 : vp_in (i + 4) M) (hv5 : vp_in (i + 5) M) {I : XS → XS → Prop} (HS : Spec I) {a : Nat → Nat} {x : XS} {cells slots : Nat} (hI : I x (pul 49 x)) (hrm : cells + 30 ≤ 601000 ∧ slots + 3000 ≤ 7293000)
    (kk : ∀ (a : Nat → Nat) (x : XS), I x (pul 49 x) → Wx k (cells + 30) (slots + 3000) LL a x 1875 [(0, .ref b), (1, .ref (a 0)), (2, .ref (a 49)), (3, .ref (a 48)), (4, .int i)] []) : Wx k cells slots LL a x 33 [(0, .ref b), (1, .ref (a 0)), (2, .ref (a 49)), (3, .ref (a 48)), (4, .int i)] [] := by
  obtain ⟨hcg, hMK, -, h0, h1, h2, h3, h4, h5, h6, h7, h8, h9, h10, h11, h12, h13, h14, h15, h16, h17, h18, h19, h20, h21, h22, h23, h24, h25, h26, h27, h28, h29, h30, h31, h32, h33, h34, h35, h36, h37, h38, h39⟩ := HS
  refine xaload_n hk dL_law_33 rfl ?_
  refine xiload hk dL_law_34 rfl ?_
  refine xsld hk hsc dL_law_36 hv0 ?_
  refine xbipush (v := 63) hk dL_law_37 (by decide) ?_
  refine xiand hk dL_law_39 ?_
  generalize xs i.toNatClampNeg &&& 63 = v
  by_cases hs0 : v = 0
  · refine xtableIn hk 216 dL_law_40 (by rw [hs0]; decide +kernel) (by rw [hs0]; decide +kernel) (off := 176) (by rw [hs0]; decide +kernel) (by decide) ?_
    exact law_feed hk hNc hfl hsc hv1 hv2 hv3 hv4 hv5 hcg hMK (h0 _ _ _ _ _) hI hrm kk
  by_cases hs1 : v = 1
  · refine xtableIn hk 320 dL_law_40 (by rw [hs1]; decide +kernel) (by rw [hs1]; decide +kernel) (off := 280) (by rw [hs1]; decide +kernel) (by decide) ?_
    exact law_trim hk hNc hfl hsc hv1 hcg hMK (h1 _) hI hrm kk
  by_cases hs2 : v = 2
  · refine xtableIn hk 376 dL_law_40 (by rw [hs2]; decide +kernel) (by rw [hs2]; decide +kernel) (off := 336) (by rw [hs2]; decide +kernel) (by decide) ?_
    exact law_teach hk hNc hfl hsc  hcg hMK h2 hI hrm kk
  by_cases hs3 : v = 3
  · refine xtableIn hk 389 dL_law_40 (by rw [hs3]; decide +kernel) (by rw [hs3]; decide +kernel) (off := 349) (by rw [hs3]; decide +kernel) (by decide) ?_
    exact law_errorAt hk hNc hfl hsc  hcg hMK h3 hI hrm kk
  by_cases hs4 : v = 4
  · refine xtableIn hk 402 dL_law_40 (by rw [hs4]; decide +kernel) (by rw [hs4]; decide +kernel) (off := 362) (by rw [hs4]; decide +kernel) (by decide) ?_
    exact law_families hk hNc hfl hsc  hcg hMK h4 hI hrm kk
  by_cases hs5 : v = 5
  · refine xtableIn hk 415 dL_law_40 (by rw [hs5]; decide +kernel) (by rw [hs5]; decide +kernel) (off := 375) (by rw [hs5]; decide +kernel) (by decide) ?_
    exact law_statements hk hNc hfl hsc  hcg hMK h5 hI hrm kk
  by_cases hs6 : v = 6
  · refine xtableIn hk 428 dL_law_40 (by rw [hs6]; decide +kernel) (by rw [hs6]; decide +kernel) (off := 388) (by rw [hs6]; decide +kernel) (by decide) ?_
    exact law_orders hk hNc hfl hsc  hcg hMK h6 hI hrm kk
  by_cases hs7 : v = 7
  · refine xtableIn hk 441 dL_law_40 (by rw [hs7]; decide +kernel) (by rw [hs7]; decide +kernel) (off := 401) (by rw [hs7]; decide +kernel) (by decide) ?_
    exact law_days hk hNc hfl hsc  hcg hMK h7 hI hrm kk
  by_cases hs8 : v = 8
  · refine xtableIn hk 454 dL_law_40 (by rw [hs8]; decide +kernel) (by rw [hs8]; decide +kernel) (off := 414) (by rw [hs8]; decide +kernel) (by decide) ?_
    exact law_ordersCarriedOut hk hNc hfl hsc  hcg hMK h8 hI hrm kk
  by_cases hs9 : v = 9
  · refine xtableIn hk 467 dL_law_40 (by rw [hs9]; decide +kernel) (by rw [hs9]; decide +kernel) (off := 427) (by rw [hs9]; decide +kernel) (by decide) ?_
    exact law_tapeBytes hk hNc hfl hsc  hcg hMK h9 hI hrm kk
  by_cases hs10 : v = 10
  · refine xtableIn hk 480 dL_law_40 (by rw [hs10]; decide +kernel) (by rw [hs10]; decide +kernel) (off := 440) (by rw [hs10]; decide +kernel) (by decide) ?_
    exact law_standing hk hNc hfl hsc  hcg hMK h10 hI hrm kk
  by_cases hs11 : v = 11
  · refine xtableIn hk 493 dL_law_40 (by rw [hs11]; decide +kernel) (by rw [hs11]; decide +kernel) (off := 453) (by rw [hs11]; decide +kernel) (by decide) ?_
    exact law_kindOf hk hNc hfl hsc hv1 hcg hMK (h11 _) hI hrm kk
  by_cases hs12 : v = 12
  · refine xtableIn hk 549 dL_law_40 (by rw [hs12]; decide +kernel) (by rw [hs12]; decide +kernel) (off := 509) (by rw [hs12]; decide +kernel) (by decide) ?_
    exact law_firstClaimOf hk hNc hfl hsc hv1 hcg hMK (h12 _) hI hrm kk
  by_cases hs13 : v = 13
  · refine xtableIn hk 605 dL_law_40 (by rw [hs13]; decide +kernel) (by rw [hs13]; decide +kernel) (off := 565) (by rw [hs13]; decide +kernel) (by decide) ?_
    exact law_secondClaimOf hk hNc hfl hsc hv1 hcg hMK (h13 _) hI hrm kk
  by_cases hs14 : v = 14
  · refine xtableIn hk 661 dL_law_40 (by rw [hs14]; decide +kernel) (by rw [hs14]; decide +kernel) (off := 621) (by rw [hs14]; decide +kernel) (by decide) ?_
    exact law_stands hk hNc hfl hsc hv1 hcg hMK (h14 _) hI hrm kk
  by_cases hs15 : v = 15
  · refine xtableIn hk 724 dL_law_40 (by rw [hs15]; decide +kernel) (by rw [hs15]; decide +kernel) (off := 684) (by rw [hs15]; decide +kernel) (by decide) ?_
    exact law_isNeedless hk hNc hfl hsc hv1 hcg hMK (h15 _) hI hrm kk
  by_cases hs16 : v = 16
  · refine xtableIn hk 787 dL_law_40 (by rw [hs16]; decide +kernel) (by rw [hs16]; decide +kernel) (off := 747) (by rw [hs16]; decide +kernel) (by decide) ?_
    exact law_follows hk hNc hfl hsc hv1 hv2 hcg hMK (h16 _ _) hI hrm kk
  by_cases hs17 : v = 17
  · refine xtableIn hk 862 dL_law_40 (by rw [hs17]; decide +kernel) (by rw [hs17]; decide +kernel) (off := 822) (by rw [hs17]; decide +kernel) (by decide) ?_
    exact law_whatFollowsFrom hk hNc hfl hsc hv1 hcg hMK (h17 _) hI hrm kk
  by_cases hs18 : v = 18
  · refine xtableIn hk 918 dL_law_40 (by rw [hs18]; decide +kernel) (by rw [hs18]; decide +kernel) (off := 878) (by rw [hs18]; decide +kernel) (by decide) ?_
    exact law_fewestStatementsBetween hk hNc hfl hsc hv1 hv2 hcg hMK (h18 _ _) hI hrm kk
  by_cases hs19 : v = 19
  · refine xtableIn hk 986 dL_law_40 (by rw [hs19]; decide +kernel) (by rw [hs19]; decide +kernel) (off := 946) (by rw [hs19]; decide +kernel) (by decide) ?_
    exact law_parts hk hNc hfl hsc  hcg hMK h19 hI hrm kk
  by_cases hs20 : v = 20
  · refine xtableIn hk 999 dL_law_40 (by rw [hs20]; decide +kernel) (by rw [hs20]; decide +kernel) (off := 959) (by rw [hs20]; decide +kernel) (by decide) ?_
    exact law_partOf hk hNc hfl hsc hv1 hcg hMK (h20 _) hI hrm kk
  by_cases hs21 : v = 21
  · refine xtableIn hk 1055 dL_law_40 (by rw [hs21]; decide +kernel) (by rw [hs21]; decide +kernel) (off := 1015) (by rw [hs21]; decide +kernel) (by decide) ?_
    exact law_partSize hk hNc hfl hsc hv1 hcg hMK (h21 _) hI hrm kk
  by_cases hs22 : v = 22
  · refine xtableIn hk 1111 dL_law_40 (by rw [hs22]; decide +kernel) (by rw [hs22]; decide +kernel) (off := 1071) (by rw [hs22]; decide +kernel) (by decide) ?_
    exact law_isPeacePossible hk hNc hfl hsc  hcg hMK h22 hI hrm kk
  by_cases hs23 : v = 23
  · refine xtableIn hk 1124 dL_law_40 (by rw [hs23]; decide +kernel) (by rw [hs23]; decide +kernel) (off := 1084) (by rw [hs23]; decide +kernel) (by decide) ?_
    exact law_peaces hk hNc hfl hsc  hcg hMK h23 hI hrm kk
  by_cases hs24 : v = 24
  · refine xtableIn hk 1137 dL_law_40 (by rw [hs24]; decide +kernel) (by rw [hs24]; decide +kernel) (off := 1097) (by rw [hs24]; decide +kernel) (by decide) ?_
    exact law_peacesWith hk hNc hfl hsc hv1 hcg hMK (h24 _) hI hrm kk
  by_cases hs25 : v = 25
  · refine xtableIn hk 1193 dL_law_40 (by rw [hs25]; decide +kernel) (by rw [hs25]; decide +kernel) (off := 1153) (by rw [hs25]; decide +kernel) (by decide) ?_
    exact law_isPossible hk hNc hfl hsc hv1 hcg hMK (h25 _) hI hrm kk
  by_cases hs26 : v = 26
  · refine xtableIn hk 1256 dL_law_40 (by rw [hs26]; decide +kernel) (by rw [hs26]; decide +kernel) (off := 1216) (by rw [hs26]; decide +kernel) (by decide) ?_
    exact law_isSettled hk hNc hfl hsc hv1 hcg hMK (h26 _) hI hrm kk
  by_cases hs27 : v = 27
  · refine xtableIn hk 1319 dL_law_40 (by rw [hs27]; decide +kernel) (by rw [hs27]; decide +kernel) (off := 1279) (by rw [hs27]; decide +kernel) (by decide) ?_
    exact law_ridesInPeace hk hNc hfl hsc hv1 hcg hMK (h27 _) hI hrm kk
  by_cases hs28 : v = 28
  · refine xtableIn hk 1382 dL_law_40 (by rw [hs28]; decide +kernel) (by rw [hs28]; decide +kernel) (off := 1342) (by rw [hs28]; decide +kernel) (by decide) ?_
    exact law_ridersInPeace hk hNc hfl hsc  hcg hMK h28 hI hrm kk
  by_cases hs29 : v = 29
  · refine xtableIn hk 1426 dL_law_40 (by rw [hs29]; decide +kernel) (by rw [hs29]; decide +kernel) (off := 1386) (by rw [hs29]; decide +kernel) (by decide) ?_
    exact law_blamedFamily hk hNc hfl hsc  hcg hMK h29 hI hrm kk
  by_cases hs30 : v = 30
  · refine xtableIn hk 1470 dL_law_40 (by rw [hs30]; decide +kernel) (by rw [hs30]; decide +kernel) (off := 1430) (by rw [hs30]; decide +kernel) (by decide) ?_
    exact law_breakStatement hk hNc hfl hsc hv1 hcg hMK (h30 _) hI hrm kk
  by_cases hs31 : v = 31
  · refine xtableIn hk 1526 dL_law_40 (by rw [hs31]; decide +kernel) (by rw [hs31]; decide +kernel) (off := 1486) (by rw [hs31]; decide +kernel) (by decide) ?_
    exact law_renewStatement hk hNc hfl hsc hv1 hcg hMK (h31 _) hI hrm kk
  by_cases hs32 : v = 32
  · refine xtableIn hk 1582 dL_law_40 (by rw [hs32]; decide +kernel) (by rw [hs32]; decide +kernel) (off := 1542) (by rw [hs32]; decide +kernel) (by decide) ?_
    exact law_passDays hk hNc hfl hsc hv1 hcg hMK (h32 _) hI hrm kk
  by_cases hs33 : v = 33
  · refine xtableIn hk 1638 dL_law_40 (by rw [hs33]; decide +kernel) (by rw [hs33]; decide +kernel) (off := 1598) (by rw [hs33]; decide +kernel) (by decide) ?_
    exact law_standingAfter hk hNc hfl hsc hv1 hcg hMK (h33 _) hI hrm kk
  by_cases hs34 : v = 34
  · refine xtableIn hk 1694 dL_law_40 (by rw [hs34]; decide +kernel) (by rw [hs34]; decide +kernel) (off := 1654) (by rw [hs34]; decide +kernel) (by decide) ?_
    exact law_peacesAfter hk hNc hfl hsc hv1 hcg hMK (h34 _) hI hrm kk
  by_cases hs35 : v = 35
  · refine xtableIn hk 1750 dL_law_40 (by rw [hs35]; decide +kernel) (by rw [hs35]; decide +kernel) (off := 1710) (by rw [hs35]; decide +kernel) (by decide) ?_
    exact law_daysUntilPeace hk hNc hfl hsc  hcg hMK h35 hI hrm kk
  by_cases hs36 : v = 36
  · refine xtableIn hk 1763 dL_law_40 (by rw [hs36]; decide +kernel) (by rw [hs36]; decide +kernel) (off := 1723) (by rw [hs36]; decide +kernel) (by decide) ?_
    exact law_fewestToBreak hk hNc hfl hsc  hcg hMK h36 hI hrm kk
  by_cases hs37 : v = 37
  · refine xtableIn hk 1776 dL_law_40 (by rw [hs37]; decide +kernel) (by rw [hs37]; decide +kernel) (off := 1736) (by rw [hs37]; decide +kernel) (by decide) ?_
    exact law_mostTellingOath hk hNc hfl hsc  hcg hMK h37 hI hrm kk
  by_cases hs38 : v = 38
  · refine xtableIn hk 1820 dL_law_40 (by rw [hs38]; decide +kernel) (by rw [hs38]; decide +kernel) (off := 1780) (by rw [hs38]; decide +kernel) (by decide) ?_
    exact law_meanRiders hk hNc hfl hsc  hcg hMK h38 hI hrm kk
  by_cases hs39 : v = 39
  · refine xtableIn hk 1861 dL_law_40 (by rw [hs39]; decide +kernel) (by rw [hs39]; decide +kernel) (off := 1821) (by rw [hs39]; decide +kernel) (by decide) ?_
    exact law_digest hk hNc hfl hsc  hcg hMK h39 hI hrm kk
  by_cases ht : (Int32.toInt v) < 0 ∨ 39 < (Int32.toInt v)
  · refine xtableOut hk 1875 dL_law_40 ht (by decide) ?_
    refine xsub [(0, .ref b), (1, .ref (a 0)), (2, .ref (a 49)), (3, .ref (a 48)), (4, .int i)] rfl ?_
    exact xwiden (by omega) (by omega) (kk a x hI)
  · refine xtableIn hk 1875 dL_law_40 (fun z => ht (Or.inl z)) (fun z => ht (Or.inr z)) (off := 1835) (tsw (n := 40) ht (by decide) [0, 1, 2, 3, 4, 5, 6, 7, 8, 9, 10, 11, 12, 13, 14, 15, 16, 17, 18, 19, 20, 21, 22, 23, 24, 25, 26, 27, 28, 29, 30, 31, 32, 33, 34, 35, 36, 37, 38, 39] (List.forall_mem_cons.mpr ⟨lv_neT hs0 (by decide), (List.forall_mem_cons.mpr ⟨lv_neT hs1 (by decide), (List.forall_mem_cons.mpr ⟨lv_neT hs2 (by decide), (List.forall_mem_cons.mpr ⟨lv_neT hs3 (by decide), (List.forall_mem_cons.mpr ⟨lv_neT hs4 (by decide), (List.forall_mem_cons.mpr ⟨lv_neT hs5 (by decide), (List.forall_mem_cons.mpr ⟨lv_neT hs6 (by decide), (List.forall_mem_cons.mpr ⟨lv_neT hs7 (by decide), (List.forall_mem_cons.mpr ⟨lv_neT hs8 (by decide), (List.forall_mem_cons.mpr ⟨lv_neT hs9 (by decide), (List.forall_mem_cons.mpr ⟨lv_neT hs10 (by decide), (List.forall_mem_cons.mpr ⟨lv_neT hs11 (by decide), (List.forall_mem_cons.mpr ⟨lv_neT hs12 (by decide), (List.forall_mem_cons.mpr ⟨lv_neT hs13 (by decide), (List.forall_mem_cons.mpr ⟨lv_neT hs14 (by decide), (List.forall_mem_cons.mpr ⟨lv_neT hs15 (by decide), (List.forall_mem_cons.mpr ⟨lv_neT hs16 (by decide), (List.forall_mem_cons.mpr ⟨lv_neT hs17 (by decide), (List.forall_mem_cons.mpr ⟨lv_neT hs18 (by decide), (List.forall_mem_cons.mpr ⟨lv_neT hs19 (by decide), (List.forall_mem_cons.mpr ⟨lv_neT hs20 (by decide), (List.forall_mem_cons.mpr ⟨lv_neT hs21 (by decide), (List.forall_mem_cons.mpr ⟨lv_neT hs22 (by decide), (List.forall_mem_cons.mpr ⟨lv_neT hs23 (by decide), (List.forall_mem_cons.mpr ⟨lv_neT hs24 (by decide), (List.forall_mem_cons.mpr ⟨lv_neT hs25 (by decide), (List.forall_mem_cons.mpr ⟨lv_neT hs26 (by decide), (List.forall_mem_cons.mpr ⟨lv_neT hs27 (by decide), (List.forall_mem_cons.mpr ⟨lv_neT hs28 (by decide), (List.forall_mem_cons.mpr ⟨lv_neT hs29 (by decide), (List.forall_mem_cons.mpr ⟨lv_neT hs30 (by decide), (List.forall_mem_cons.mpr ⟨lv_neT hs31 (by decide), (List.forall_mem_cons.mpr ⟨lv_neT hs32 (by decide), (List.forall_mem_cons.mpr ⟨lv_neT hs33 (by decide), (List.forall_mem_cons.mpr ⟨lv_neT hs34 (by decide), (List.forall_mem_cons.mpr ⟨lv_neT hs35 (by decide), (List.forall_mem_cons.mpr ⟨lv_neT hs36 (by decide), (List.forall_mem_cons.mpr ⟨lv_neT hs37 (by decide), (List.forall_mem_cons.mpr ⟨lv_neT hs38 (by decide), (List.forall_mem_cons.mpr ⟨lv_neT hs39 (by decide), (fun _ h => absurd h List.not_mem_nil)⟩)⟩)⟩)⟩)⟩)⟩)⟩)⟩)⟩)⟩)⟩)⟩)⟩)⟩)⟩)⟩)⟩)⟩)⟩)⟩)⟩)⟩)⟩)⟩)⟩)⟩)⟩)⟩)⟩)⟩)⟩)⟩)⟩)⟩)⟩)⟩)⟩)⟩)⟩)⟩) (by decide +kernel)) (by decide) ?_
    refine xsub [(0, .ref b), (1, .ref (a 0)), (2, .ref (a 49)), (3, .ref (a 48)), (4, .int i)] rfl ?_
    exact xwiden (by omega) (by omega) (kk a x hI)
theorem nI_m6 {n : Nat} (h : n < 2 ^ 31) : (nI n - 6).toInt = (n : Int) - 6 := by
  have h3 : (6 : Int32).toInt = 6 := rfl
  rw [Int32.toInt_sub, nI_toInt h, h3]
  exact Int.bmod_eq_of_le (by omega) (by omega)
theorem nI_addN (a b : Nat) : nI a + nI b = nI (a + b) := (Int32.ofNat_add a b).symm
theorem vp_nI {i c M : Nat} (h : i + c < M) (hM : M < 2 ^ 31) : vp_in (nI i + nI c) M := by
  rw [nI_addN]
  exact vp_in_iff.mpr (by rw [nI_toInt (show i + c < 2 ^ 31 by omega)]; omega)
set_option maxHeartbeats 4000000 in
set_option maxRecDepth 100000 in
theorem law_loop {k : Kx} {nm : String} (hk : Fok k code 9 RL ret nm 1312 601000 7293000) (hNc : NcK k) (hfl : (kg k).1.stackTraces = false) {b M : Nat} {xs : Nat → Int32} (hsc : ScK k b M xs) (he : EndL k b) (hM : M ≤ 3072) {I : XS → XS → Prop} (HS : Spec I) : ∀ (n i : Nat) (a : Nat → Nat) (x : XS) (cells slots : Nat), M ≤ i + 6 * n → i ≤ 4000 → cells + 30 * n ≤ 600000 → slots + 3000 * n ≤ 7000000 → I x (pul 49 x) → Wx k cells slots LL a x 23 [(0, .ref b), (1, .ref (a 0)), (2, .ref (a 49)), (3, .ref (a 48)), (4, .int (nI i))] [] := by
  intro n
  induction n with
  | zero =>
    intro i a x cells slots hn hi hc hs hI
    refine xiload hk dL_law_23 rfl ?_
    refine xaload_n hk dL_law_25 rfl ?_
    refine xslen hk hsc dL_law_26 ?_
    refine xbipush (v := 6) hk dL_law_27 (by decide) ?_
    refine xisub hk dL_law_29 ?_
    refine xicmp_gt hk 1881 dL_law_30 (by decide) (fun h => ?_) (fun h => ?_)
    · refine xiconst (v := 1) hk dL_law_1881 (by decide) ?_
      exact xlaw1 hk he dL_law_1882 ⟨by omega, by omega⟩
    · refine absurd ?_ h
      rw [Int32.lt_iff_toInt_lt, show Int32.ofNat M = nI M from rfl, nI_m6 (by omega), nI_toInt (by omega)]
      omega
  | succ n ih =>
    intro i a x cells slots hn hi hc hs hI
    refine xiload hk dL_law_23 rfl ?_
    refine xaload_n hk dL_law_25 rfl ?_
    refine xslen hk hsc dL_law_26 ?_
    refine xbipush (v := 6) hk dL_law_27 (by decide) ?_
    refine xisub hk dL_law_29 ?_
    refine xicmp_gt hk 1881 dL_law_30 (by decide) (fun h => ?_) (fun h => ?_)
    · refine xiconst (v := 1) hk dL_law_1881 (by decide) ?_
      exact xlaw1 hk he dL_law_1882 ⟨by omega, by omega⟩
    · rw [Int32.lt_iff_toInt_lt, show Int32.ofNat M = nI M from rfl, nI_m6 (by omega), nI_toInt (by omega)] at h
      have hb : i + 6 ≤ M := by omega
      refine law_body hk hNc hfl hsc (by have := vp_nI (i := i) (c := 0) (M := M) (by omega) (by omega); rwa [show nI i + nI 0 = nI i from Int32.add_zero _] at this) (vp_nI (c := 1) (by omega) (by omega)) (vp_nI (c := 2) (by omega) (by omega)) (vp_nI (c := 3) (by omega) (by omega)) (vp_nI (c := 4) (by omega) (by omega)) (vp_nI (c := 5) (by omega) (by omega)) HS hI ⟨by omega, by omega⟩ (fun a x hI => ?_)
      refine xiinc (v := nI i + nI 6) hk dL_law_1875 rfl (by decide) rfl ?_
      rw [nI_addN]
      refine xgoto hk 23 dL_law_1878 (by decide) ?_
      refine xsub [(0, .ref b), (1, .ref (a 0)), (2, .ref (a 49)), (3, .ref (a 48)), (4, .int (nI (i + 6)))] rfl ?_
      exact ih (i + 6) a x (cells + 30) (slots + 3000) (by omega) (by omega) (by omega) (by omega) hI
