/-! The tokens of a book's text -/
abbrev Tok := Int32 × Int64
def kwX (j : Nat) : Tok := (300 + nI j, kwT j)
def fmX (f : Nat) : Tok := (258, nmFa f)
def stX (k : Nat) : Tok := (258, nmSt k)
def nuX (n : Nat) : Tok := (259, Int64.ofNat n)
def syX (b : Int32) : Tok := (b, 0)
def clX (c : Nat) : List Tok := [fmX (c / 2), kwX (10 + c % 2)]
def famL (f : Nat) : List Tok := [kwX 0, fmX f, syX 59]
def tolL (k c d n : Nat) : List Tok := if k = 0 then kwX 1 :: stX n :: kwX 2 :: (clX c ++ kwX 3 :: (clX d ++ [syX 59])) else if k = 1 then kwX 4 :: stX n :: kwX 5 :: (clX c ++ kwX 6 :: (clX d ++ [syX 59])) else if k = 2 then kwX 7 :: stX n :: (clX c ++ kwX 8 :: (clX d ++ [syX 59])) else kwX 9 :: stX n :: (clX c ++ [syX 59])
def tesL : Nat → Nat → Nat → Nat → Nat → List Tok
  | 0, _, _, _, _ => []
  | 1, d, _, _, _ => [kwX 14, kwX 15, syX 45, kwX 15, syX 47, nuX 3, syX 42, nuX 3, syX 61, nuX (d % 3)]
  | 2, d, _, _, N => kwX 14 :: kwX 19 :: clX (d % (2 * N))
  | 3, d, e, _, _ => [kwX 14, kwX 23, kwX 20, stX e, kwX 6, kwX 16, syX 60, nuX d]
  | 4, d, e, f, N => kwX 14 :: kwX 21 :: (clX (d % (2 * N)) ++ kwX 22 :: (clX (e % (2 * N)) ++ [kwX 24, kwX 17, syX 62, nuX f]))
  | _, d, _, _, _ => [kwX 14, syX 91, kwX 18, syX 256, nuX 4, syX 42, nuX d, syX 93]
def linesT {α : Type} (L : Nat → List α) : Nat → Nat → List α
  | _, 0 => []
  | i, r + 1 => L i ++ linesT L (i + 1) r
theorem linesT_snoc {α : Type} (L : Nat → List α) : ∀ r i, linesT L i (r + 1) = linesT L i r ++ L (i + r)
  | 0, i => by rw [linesT, linesT, linesT, Nat.add_zero, List.append_nil, List.nil_append]
  | r + 1, i => by rw [linesT, linesT_snoc L r (i + 1), linesT, List.append_assoc, show i + 1 + r = i + (r + 1) by omega]
def stmL (b : Bok) (k : Nat) : List Tok := tolL (bk b k) (b1 b k) (b2 b k) k
def ordL (b : Bok) (j : Nat) : List Tok := kwX (if bo b j 0 = 1 then 12 else 13) :: stX (bo b j 1) :: (tesL (bo b j 2) (bo b j 3) (bo b j 4) (bo b j 5) (bF b) ++ [syX 59])
def bookL (b : Bok) : List Tok := linesT famL 0 (bF b) ++ (linesT (stmL b) 0 (bS b) ++ linesT (ordL b) 0 (bM b))
theorem tv_0 : txB 0 = [102] := by decide +kernel
theorem tv_1 : txB 1 = [32, 114, 105, 100, 101, 115] := by decide +kernel
theorem tv_2 : txB 2 = [32, 115, 116, 97, 121, 115] := by decide +kernel
theorem tv_3 : txB 3 = [32, 115] := by decide +kernel
theorem tv_4 : txB 4 = [32] := by decide +kernel
theorem tv_5 : txB 5 = [112, 114, 111, 109, 105, 115, 101] := by decide +kernel
theorem tv_6 : txB 6 = [105, 102, 32] := by decide +kernel
theorem tv_7 : txB 7 = [32, 116, 104, 101, 110, 32] := by decide +kernel
theorem tv_8 : txB 8 = [112, 97, 99, 116] := by decide +kernel
theorem tv_9 : txB 9 = [101, 105, 116, 104, 101, 114, 32] := by decide +kernel
theorem tv_10 : txB 10 = [32, 111, 114, 32] := by decide +kernel
theorem tv_11 : txB 11 = [102, 101, 117, 100] := by decide +kernel
theorem tv_12 : txB 12 = [32, 119, 105, 116, 104, 32] := by decide +kernel
theorem tv_13 : txB 13 = [111, 97, 116, 104] := by decide +kernel
theorem tv_14 : txB 14 = [] := by decide +kernel
theorem tv_15 : txB 15 = [32, 119, 104, 101, 110, 32, 100, 97, 121, 45, 100, 97, 121, 47, 51, 42, 51, 61] := by decide +kernel
theorem tv_16 : txB 16 = [32, 119, 104, 101, 110, 32, 112, 111, 115, 115, 105, 98, 108, 101, 32] := by decide +kernel
theorem tv_17 : txB 17 = [32, 119, 104, 101, 110, 32, 110, 111, 116, 32, 115, 116, 97, 110, 100, 115, 32, 115] := by decide +kernel
theorem tv_18 : txB 18 = [32, 111, 114, 32, 115, 116, 97, 110, 100, 105, 110, 103, 60] := by decide +kernel
theorem tv_19 : txB 19 = [32, 119, 104, 101, 110, 32, 102, 111, 108, 108, 111, 119, 115, 32] := by decide +kernel
theorem tv_20 : txB 20 = [32, 102, 114, 111, 109, 32] := by decide +kernel
theorem tv_21 : txB 21 = [32, 97, 110, 100, 32, 112, 97, 114, 116, 115, 62] := by decide +kernel
theorem tv_22 : txB 22 = [32, 119, 104, 101, 110, 32, 91, 112, 101, 97, 99, 101, 115, 60, 61, 52, 42] := by decide +kernel
theorem tv_23 : txB 23 = [93] := by decide +kernel
theorem tv_24 : txB 24 = [102, 97, 109, 105, 108, 121, 32, 102] := by decide +kernel
theorem tv_25 : txB 25 = [59] := by decide +kernel
theorem tv_26 : txB 26 = [59, 10] := by decide +kernel
theorem tv_27 : txB 27 = [98, 114, 101, 97, 107, 32, 115] := by decide +kernel
theorem tv_28 : txB 28 = [114, 101, 110, 101, 119, 32, 115] := by decide +kernel
theorem th_1 (s : List Int32) : Alv ((txB 1 ++ s).headD (-1)) = false := by rw [tv_1]; show Alv 32 = false; decide
theorem th_2 (s : List Int32) : Alv ((txB 2 ++ s).headD (-1)) = false := by rw [tv_2]; show Alv 32 = false; decide
theorem th_3 (s : List Int32) : Alv ((txB 3 ++ s).headD (-1)) = false := by rw [tv_3]; show Alv 32 = false; decide
theorem th_4 (s : List Int32) : Alv ((txB 4 ++ s).headD (-1)) = false := by rw [tv_4]; show Alv 32 = false; decide
theorem th_7 (s : List Int32) : Alv ((txB 7 ++ s).headD (-1)) = false := by rw [tv_7]; show Alv 32 = false; decide
theorem th_10 (s : List Int32) : Alv ((txB 10 ++ s).headD (-1)) = false := by rw [tv_10]; show Alv 32 = false; decide
theorem th_12 (s : List Int32) : Alv ((txB 12 ++ s).headD (-1)) = false := by rw [tv_12]; show Alv 32 = false; decide
theorem th_15 (s : List Int32) : Alv ((txB 15 ++ s).headD (-1)) = false := by rw [tv_15]; show Alv 32 = false; decide
theorem th_16 (s : List Int32) : Alv ((txB 16 ++ s).headD (-1)) = false := by rw [tv_16]; show Alv 32 = false; decide
theorem th_17 (s : List Int32) : Alv ((txB 17 ++ s).headD (-1)) = false := by rw [tv_17]; show Alv 32 = false; decide
theorem th_18 (s : List Int32) : Alv ((txB 18 ++ s).headD (-1)) = false := by rw [tv_18]; show Alv 32 = false; decide
theorem th_19 (s : List Int32) : Alv ((txB 19 ++ s).headD (-1)) = false := by rw [tv_19]; show Alv 32 = false; decide
theorem th_20 (s : List Int32) : Alv ((txB 20 ++ s).headD (-1)) = false := by rw [tv_20]; show Alv 32 = false; decide
theorem th_21 (s : List Int32) : Alv ((txB 21 ++ s).headD (-1)) = false := by rw [tv_21]; show Alv 32 = false; decide
theorem th_22 (s : List Int32) : Alv ((txB 22 ++ s).headD (-1)) = false := by rw [tv_22]; show Alv 32 = false; decide
theorem th_23 (s : List Int32) : Alv ((txB 23 ++ s).headD (-1)) = false := by rw [tv_23]; show Alv 93 = false; decide
theorem th_25 (s : List Int32) : Alv ((txB 25 ++ s).headD (-1)) = false := by rw [tv_25]; show Alv 59 = false; decide
theorem th_26 (s : List Int32) : Alv ((txB 26 ++ s).headD (-1)) = false := by rw [tv_26]; show Alv 59 = false; decide
theorem tg_18 (s : List Int32) : digB ((txB 18 ++ s).headD (-1)) = false := by rw [tv_18]; show digB 32 = false; decide
theorem tg_21 (s : List Int32) : digB ((txB 21 ++ s).headD (-1)) = false := by rw [tv_21]; show digB 32 = false; decide
theorem tg_23 (s : List Int32) : digB ((txB 23 ++ s).headD (-1)) = false := by rw [tv_23]; show digB 93 = false; decide
theorem tg_25 (s : List Int32) : digB ((txB 25 ++ s).headD (-1)) = false := by rw [tv_25]; show digB 59 = false; decide
theorem tg_26 (s : List Int32) : digB ((txB 26 ++ s).headD (-1)) = false := by rw [tv_26]; show digB 59 = false; decide
theorem sx_1 {s : List Int32} {l : List Tok} (hs : Alv (s.headD (-1)) = false) (h : ScanTo kwT s l) : ScanTo kwT (txB 1 ++ s) (kwX 10 :: (l)) := by
  rw [tv_1]
  show ScanTo kwT (32 :: (kwB.getD 10 [] ++ (s))) _
  exact sc_bl (by decide) (sc_kw (by decide) hs (h))
theorem sx_2 {s : List Int32} {l : List Tok} (hs : Alv (s.headD (-1)) = false) (h : ScanTo kwT s l) : ScanTo kwT (txB 2 ++ s) (kwX 11 :: (l)) := by
  rw [tv_2]
  show ScanTo kwT (32 :: (kwB.getD 11 [] ++ (s))) _
  exact sc_bl (by decide) (sc_kw (by decide) hs (h))
theorem sx_4 {s : List Int32} {l : List Tok} (h : ScanTo kwT s l) : ScanTo kwT (txB 4 ++ s) (l) := by
  rw [tv_4]
  show ScanTo kwT (32 :: (s)) _
  exact sc_bl (by decide) (h)
theorem sx_5 {s : List Int32} {l : List Tok} (hs : Alv (s.headD (-1)) = false) (h : ScanTo kwT s l) : ScanTo kwT (txB 5 ++ s) (kwX 1 :: (l)) := by
  rw [tv_5]
  show ScanTo kwT (kwB.getD 1 [] ++ (s)) _
  exact sc_kw (by decide) hs (h)
theorem sx_6 {s : List Int32} {l : List Tok} (h : ScanTo kwT s l) : ScanTo kwT (txB 6 ++ s) (kwX 2 :: (l)) := by
  rw [tv_6]
  show ScanTo kwT (kwB.getD 2 [] ++ (32 :: (s))) _
  exact sc_kw (by decide) rfl (sc_bl (by decide) (h))
theorem sx_7 {s : List Int32} {l : List Tok} (h : ScanTo kwT s l) : ScanTo kwT (txB 7 ++ s) (kwX 3 :: (l)) := by
  rw [tv_7]
  show ScanTo kwT (32 :: (kwB.getD 3 [] ++ (32 :: (s)))) _
  exact sc_bl (by decide) (sc_kw (by decide) rfl (sc_bl (by decide) (h)))
theorem sx_8 {s : List Int32} {l : List Tok} (hs : Alv (s.headD (-1)) = false) (h : ScanTo kwT s l) : ScanTo kwT (txB 8 ++ s) (kwX 4 :: (l)) := by
  rw [tv_8]
  show ScanTo kwT (kwB.getD 4 [] ++ (s)) _
  exact sc_kw (by decide) hs (h)
theorem sx_9 {s : List Int32} {l : List Tok} (h : ScanTo kwT s l) : ScanTo kwT (txB 9 ++ s) (kwX 5 :: (l)) := by
  rw [tv_9]
  show ScanTo kwT (kwB.getD 5 [] ++ (32 :: (s))) _
  exact sc_kw (by decide) rfl (sc_bl (by decide) (h))
theorem sx_10 {s : List Int32} {l : List Tok} (h : ScanTo kwT s l) : ScanTo kwT (txB 10 ++ s) (kwX 6 :: (l)) := by
  rw [tv_10]
  show ScanTo kwT (32 :: (kwB.getD 6 [] ++ (32 :: (s)))) _
  exact sc_bl (by decide) (sc_kw (by decide) rfl (sc_bl (by decide) (h)))
theorem sx_11 {s : List Int32} {l : List Tok} (hs : Alv (s.headD (-1)) = false) (h : ScanTo kwT s l) : ScanTo kwT (txB 11 ++ s) (kwX 7 :: (l)) := by
  rw [tv_11]
  show ScanTo kwT (kwB.getD 7 [] ++ (s)) _
  exact sc_kw (by decide) hs (h)
theorem sx_12 {s : List Int32} {l : List Tok} (h : ScanTo kwT s l) : ScanTo kwT (txB 12 ++ s) (kwX 8 :: (l)) := by
  rw [tv_12]
  show ScanTo kwT (32 :: (kwB.getD 8 [] ++ (32 :: (s)))) _
  exact sc_bl (by decide) (sc_kw (by decide) rfl (sc_bl (by decide) (h)))
theorem sx_13 {s : List Int32} {l : List Tok} (hs : Alv (s.headD (-1)) = false) (h : ScanTo kwT s l) : ScanTo kwT (txB 13 ++ s) (kwX 9 :: (l)) := by
  rw [tv_13]
  show ScanTo kwT (kwB.getD 9 [] ++ (s)) _
  exact sc_kw (by decide) hs (h)
theorem sx_16 {s : List Int32} {l : List Tok} (h : ScanTo kwT s l) : ScanTo kwT (txB 16 ++ s) (kwX 14 :: (kwX 19 :: (l))) := by
  rw [tv_16]
  show ScanTo kwT (32 :: (kwB.getD 14 [] ++ (32 :: (kwB.getD 19 [] ++ (32 :: (s)))))) _
  exact sc_bl (by decide) (sc_kw (by decide) rfl (sc_bl (by decide) (sc_kw (by decide) rfl (sc_bl (by decide) (h)))))
theorem sx_19 {s : List Int32} {l : List Tok} (h : ScanTo kwT s l) : ScanTo kwT (txB 19 ++ s) (kwX 14 :: (kwX 21 :: (l))) := by
  rw [tv_19]
  show ScanTo kwT (32 :: (kwB.getD 14 [] ++ (32 :: (kwB.getD 21 [] ++ (32 :: (s)))))) _
  exact sc_bl (by decide) (sc_kw (by decide) rfl (sc_bl (by decide) (sc_kw (by decide) rfl (sc_bl (by decide) (h)))))
theorem sx_20 {s : List Int32} {l : List Tok} (h : ScanTo kwT s l) : ScanTo kwT (txB 20 ++ s) (kwX 22 :: (l)) := by
  rw [tv_20]
  show ScanTo kwT (32 :: (kwB.getD 22 [] ++ (32 :: (s)))) _
  exact sc_bl (by decide) (sc_kw (by decide) rfl (sc_bl (by decide) (h)))
theorem sx_23 {s : List Int32} {l : List Tok} (h : ScanTo kwT s l) : ScanTo kwT (txB 23 ++ s) (syX 93 :: (l)) := by
  rw [tv_23]
  show ScanTo kwT (93 :: (s)) _
  exact sc_sym (by decide) (by decide) (by decide) (by decide) (by decide) (by decide) (h)
theorem sx_25 {s : List Int32} {l : List Tok} (h : ScanTo kwT s l) : ScanTo kwT (txB 25 ++ s) (syX 59 :: (l)) := by
  rw [tv_25]
  show ScanTo kwT (59 :: (s)) _
  exact sc_sym (by decide) (by decide) (by decide) (by decide) (by decide) (by decide) (h)
theorem sx_26 {s : List Int32} {l : List Tok} (h : ScanTo kwT s l) : ScanTo kwT (txB 26 ++ s) (syX 59 :: (l)) := by
  rw [tv_26]
  show ScanTo kwT (59 :: (10 :: (s))) _
  exact sc_sym (by decide) (by decide) (by decide) (by decide) (by decide) (by decide) (sc_bl (by decide) (h))
theorem sx_3 {s : List Int32} {l : List Tok} {n : Nat} (hn : n < 20) (hs : Alv (s.headD (-1)) = false) (h : ScanTo kwT s l) : ScanTo kwT (txB 3 ++ (numB n ++ s)) (stX n :: l) := by
  rw [tv_3]
  show ScanTo kwT (32 :: (115 :: (numB n ++ s))) _
  exact sc_bl (by decide) (sc_stm hn hs h)
theorem sx_17 {s : List Int32} {l : List Tok} {n : Nat} (hn : n < 20) (hs : Alv (s.headD (-1)) = false) (h : ScanTo kwT s l) : ScanTo kwT (txB 17 ++ (numB n ++ s)) (kwX 14 :: (kwX 23 :: (kwX 20 :: (stX n :: l)))) := by
  rw [tv_17]
  show ScanTo kwT (32 :: (kwB.getD 14 [] ++ (32 :: (kwB.getD 23 [] ++ (32 :: (kwB.getD 20 [] ++ (32 :: (115 :: (numB n ++ s))))))))) _
  exact sc_bl (by decide) (sc_kw (by decide) rfl (sc_bl (by decide) (sc_kw (by decide) rfl (sc_bl (by decide) (sc_kw (by decide) rfl (sc_bl (by decide) (sc_stm hn hs h)))))))
theorem sx_27 {s : List Int32} {l : List Tok} {n : Nat} (hn : n < 20) (hs : Alv (s.headD (-1)) = false) (h : ScanTo kwT s l) : ScanTo kwT (txB 27 ++ (numB n ++ s)) (kwX 12 :: (stX n :: l)) := by
  rw [tv_27]
  show ScanTo kwT (kwB.getD 12 [] ++ (32 :: (115 :: (numB n ++ s)))) _
  exact sc_kw (by decide) rfl (sc_bl (by decide) (sc_stm hn hs h))
theorem sx_28 {s : List Int32} {l : List Tok} {n : Nat} (hn : n < 20) (hs : Alv (s.headD (-1)) = false) (h : ScanTo kwT s l) : ScanTo kwT (txB 28 ++ (numB n ++ s)) (kwX 13 :: (stX n :: l)) := by
  rw [tv_28]
  show ScanTo kwT (kwB.getD 13 [] ++ (32 :: (115 :: (numB n ++ s)))) _
  exact sc_kw (by decide) rfl (sc_bl (by decide) (sc_stm hn hs h))
theorem sx_0 {s : List Int32} {l : List Tok} {n : Nat} (hn : n < 10) (hs : Alv (s.headD (-1)) = false) (h : ScanTo kwT s l) : ScanTo kwT (txB 0 ++ (numB n ++ s)) (fmX n :: l) := by
  rw [tv_0]
  show ScanTo kwT (102 :: (numB n ++ s)) _
  exact sc_fam hn hs h
theorem sx_24 {s : List Int32} {l : List Tok} {n : Nat} (hn : n < 10) (hs : Alv (s.headD (-1)) = false) (h : ScanTo kwT s l) : ScanTo kwT (txB 24 ++ (numB n ++ s)) (kwX 0 :: (fmX n :: l)) := by
  rw [tv_24]
  show ScanTo kwT (kwB.getD 0 [] ++ (32 :: (102 :: (numB n ++ s)))) _
  exact sc_kw (by decide) rfl (sc_bl (by decide) (sc_fam hn hs h))
theorem nh_ok : ∀ n, n < 100 → ((numB n).headD 0) ≠ 61 ∧ Alv ((numB n).headD 0) = true ∧ numB n ≠ [] := by decide +kernel
theorem nh_hd {n : Nat} (hn : n < 100) (s : List Int32) : (numB n ++ s).headD (-1) ≠ 61 := by
  have h := nh_ok n hn
  revert h
  generalize numB n = w
  intro h
  cases w with
  | nil => exact absurd rfl h.2.2
  | cons c w => exact h.1
theorem sx_15 {s : List Int32} {l : List Tok} {n : Nat} (hn : n < 100) (hs : digB (s.headD (-1)) = false) (h : ScanTo kwT s l) : ScanTo kwT (txB 15 ++ (numB n ++ s)) (kwX 14 :: (kwX 15 :: (syX 45 :: (kwX 15 :: (syX 47 :: (nuX 3 :: (syX 42 :: (nuX 3 :: (syX 61 :: (nuX n :: l)))))))))) := by
  rw [tv_15]
  show ScanTo kwT (32 :: (kwB.getD 14 [] ++ (32 :: (kwB.getD 15 [] ++ (45 :: (kwB.getD 15 [] ++ (47 :: (numB 3 ++ (42 :: (numB 3 ++ (61 :: (numB n ++ s)))))))))))) _
  exact sc_bl (by decide) (sc_kw (by decide) rfl (sc_bl (by decide) (sc_kw (by decide) rfl (sc_sym (by decide) (by decide) (by decide) (by decide) (by decide) (by decide) (sc_kw (by decide) rfl (sc_sym (by decide) (by decide) (by decide) (by decide) (by decide) (by decide) (sc_n (by decide) rfl (sc_sym (by decide) (by decide) (by decide) (by decide) (by decide) (by decide) (sc_n (by decide) rfl (sc_sym (by decide) (by decide) (by decide) (by decide) (by decide) (by decide) (sc_n hn hs h)))))))))))
theorem sx_18 {s : List Int32} {l : List Tok} {n : Nat} (hn : n < 100) (hs : digB (s.headD (-1)) = false) (h : ScanTo kwT s l) : ScanTo kwT (txB 18 ++ (numB n ++ s)) (kwX 6 :: (kwX 16 :: (syX 60 :: (nuX n :: l)))) := by
  rw [tv_18]
  show ScanTo kwT (32 :: (kwB.getD 6 [] ++ (32 :: (kwB.getD 16 [] ++ (60 :: (numB n ++ s)))))) _
  exact sc_bl (by decide) (sc_kw (by decide) rfl (sc_bl (by decide) (sc_kw (by decide) rfl (sc_cmp (by decide) (nh_hd hn s) (sc_n hn hs h)))))
theorem sx_21 {s : List Int32} {l : List Tok} {n : Nat} (hn : n < 100) (hs : digB (s.headD (-1)) = false) (h : ScanTo kwT s l) : ScanTo kwT (txB 21 ++ (numB n ++ s)) (kwX 24 :: (kwX 17 :: (syX 62 :: (nuX n :: l)))) := by
  rw [tv_21]
  show ScanTo kwT (32 :: (kwB.getD 24 [] ++ (32 :: (kwB.getD 17 [] ++ (62 :: (numB n ++ s)))))) _
  exact sc_bl (by decide) (sc_kw (by decide) rfl (sc_bl (by decide) (sc_kw (by decide) rfl (sc_cmp (by decide) (nh_hd hn s) (sc_n hn hs h)))))
theorem sx_22 {s : List Int32} {l : List Tok} {n : Nat} (hn : n < 100) (hs : digB (s.headD (-1)) = false) (h : ScanTo kwT s l) : ScanTo kwT (txB 22 ++ (numB n ++ s)) (kwX 14 :: (syX 91 :: (kwX 18 :: (syX 256 :: (nuX 4 :: (syX 42 :: (nuX n :: l))))))) := by
  rw [tv_22]
  show ScanTo kwT (32 :: (kwB.getD 14 [] ++ (32 :: (91 :: (kwB.getD 18 [] ++ (60 :: 61 :: (numB 4 ++ (42 :: (numB n ++ s))))))))) _
  exact sc_bl (by decide) (sc_kw (by decide) rfl (sc_bl (by decide) (sc_sym (by decide) (by decide) (by decide) (by decide) (by decide) (by decide) (sc_kw (by decide) rfl (sc_leq (sc_n (by decide) rfl (sc_sym (by decide) (by decide) (by decide) (by decide) (by decide) (by decide) (sc_n hn hs h))))))))
theorem sx_cl {s : List Int32} {l : List Tok} {c : Nat} (hc : c < 20) (hs : Alv (s.headD (-1)) = false) (h : ScanTo kwT s l) : ScanTo kwT (claimB c ++ s) (clX c ++ l) := by
  unfold claimB clX
  rw [List.append_assoc, List.append_assoc]
  by_cases e : c % 2 = 0
  · rw [if_pos e, e]
    exact sx_0 (by omega) (th_1 s) (sx_1 hs h)
  · rw [if_neg e, show c % 2 = 1 by omega]
    exact sx_0 (by omega) (th_2 s) (sx_2 hs h)
theorem hd_cl {s : List Int32} {P : Int32 → Bool} (c : Nat) (h : P 102 = false) : P ((claimB c ++ s).headD (-1)) = false := by
  unfold claimB
  rw [tv_0, List.append_assoc, List.append_assoc]; exact h
theorem sx_fam {s : List Int32} {l : List Tok} {f : Nat} (hf : f < 10) (h : ScanTo kwT s l) : ScanTo kwT (txB 24 ++ (numB f ++ (txB 25 ++ s))) (famL f ++ l) := sx_24 hf (th_25 s) (sx_25 h)
theorem sx_tol {s : List Int32} {l : List Tok} {k c d n : Nat} (hc : c < 20) (hd : d < 20) (hn : n < 20) (h : ScanTo kwT s l) : ScanTo kwT (toldB k c d n ++ (txB 26 ++ s)) (tolL k c d n ++ l) := by
  unfold toldB tolL
  have h26 := sx_26 h
  dsimp only
  by_cases k0 : k = 0
  · rw [if_pos k0, if_pos k0]
    simp only [List.append_assoc, List.cons_append, List.nil_append]
    exact sx_5 (th_3 _) (sx_3 hn (th_4 _) (sx_4 (sx_6 (sx_cl hc (th_7 _) (sx_7 (sx_cl hd (th_26 _) h26))))))
  · rw [if_neg k0, if_neg k0]
    by_cases k1 : k = 1
    · rw [if_pos k1, if_pos k1]
      simp only [List.append_assoc, List.cons_append, List.nil_append]
      exact sx_8 (th_3 _) (sx_3 hn (th_4 _) (sx_4 (sx_9 (sx_cl hc (th_10 _) (sx_10 (sx_cl hd (th_26 _) h26))))))
    · rw [if_neg k1, if_neg k1]
      by_cases k2 : k = 2
      · rw [if_pos k2, if_pos k2]
        simp only [List.append_assoc, List.cons_append, List.nil_append]
        exact sx_11 (th_3 _) (sx_3 hn (th_4 _) (sx_4 (sx_cl hc (th_12 _) (sx_12 (sx_cl hd (th_26 _) h26)))))
      · rw [if_neg k2, if_neg k2]
        simp only [List.append_assoc, List.cons_append, List.nil_append]
        exact sx_13 (th_3 _) (sx_3 hn (th_4 _) (sx_4 (sx_cl hc (th_26 _) h26)))
theorem testB5 (k d e f N : Nat) : testB (k + 5) d e f N = txB 22 ++ numB d ++ txB 23 := rfl
theorem tesL5 (k d e f N : Nat) : tesL (k + 5) d e f N = [kwX 14, syX 91, kwX 18, syX 256, nuX 4, syX 42, nuX d, syX 93] := rfl
theorem sx_tes {s : List Int32} {l : List Tok} : ∀ (k d e f N : Nat), d < 100 → e < 20 → f < 100 → 1 ≤ N → N ≤ 10 → ScanTo kwT s l → ScanTo kwT (testB k d e f N ++ (txB 26 ++ s)) (tesL k d e f N ++ (syX 59 :: l))
  | 0, d, e, f, N, hd, he, hf, h1, hN, h => by
    rw [testB, tesL, tv_14]; exact sx_26 h
  | 1, d, e, f, N, hd, he, hf, h1, hN, h => by
    rw [testB, tesL, List.append_assoc]; exact sx_15 (by omega) (tg_26 _) (sx_26 h)
  | 2, d, e, f, N, hd, he, hf, h1, hN, h => by
    have := Nat.mod_lt d (show 0 < 2 * N by omega)
    rw [testB, tesL, List.append_assoc]; exact sx_16 (sx_cl (by omega) (th_26 _) (sx_26 h))
  | 3, d, e, f, N, hd, he, hf, h1, hN, h => by
    rw [testB, tesL, List.append_assoc, List.append_assoc, List.append_assoc]; exact sx_17 he (th_18 _) (sx_18 hd (tg_26 _) (sx_26 h))
  | 4, d, e, f, N, hd, he, hf, h1, hN, h => by
    have a1 := Nat.mod_lt d (show 0 < 2 * N by omega)
    have a2 := Nat.mod_lt e (show 0 < 2 * N by omega)
    rw [testB, tesL]
    simp only [List.append_assoc, List.cons_append, List.nil_append]
    exact sx_19 (sx_cl (by omega) (th_20 _) (sx_20 (sx_cl (by omega) (th_21 _) (sx_21 hf (tg_26 _) (sx_26 h)))))
  | k + 5, d, e, f, N, hd, he, hf, h1, hN, h => by
    rw [testB5, tesL5, List.append_assoc, List.append_assoc]; exact sx_22 hd (tg_23 _) (sx_23 (sx_26 h))
theorem hd_tes {s : List Int32} : ∀ (k d e f N : Nat), Alv ((testB k d e f N ++ (txB 26 ++ s)).headD (-1)) = false
  | 0, d, e, f, N => by rw [testB, tv_14]; exact th_26 s
  | 1, d, e, f, N => by rw [testB, List.append_assoc]; exact th_15 _
  | 2, d, e, f, N => by rw [testB, List.append_assoc]; exact th_16 _
  | 3, d, e, f, N => by rw [testB, List.append_assoc, List.append_assoc, List.append_assoc]; exact th_17 _
  | 4, d, e, f, N => by
    rw [testB]
    simp only [List.append_assoc]; exact th_19 _
  | k + 5, d, e, f, N => by rw [testB5, List.append_assoc, List.append_assoc]; exact th_22 _
theorem sx_ord {s : List Int32} {l : List Tok} {b : Bok} {j : Nat} (h0 : bo b j 1 < 20) (h3 : bo b j 3 < 100) (h4 : bo b j 4 < 20) (h5 : bo b j 5 < 100) (h1 : 1 ≤ bF b) (hN : bF b ≤ 10) (h : ScanTo kwT s l) : ScanTo kwT ((if bo b j 0 = 1 then txB 27 else txB 28) ++ (numB (bo b j 1) ++ (testB (bo b j 2) (bo b j 3) (bo b j 4) (bo b j 5) (bF b) ++ (txB 26 ++ s)))) (ordL b j ++ l) := by
  unfold ordL
  have ht := sx_tes (bo b j 2) (bo b j 3) (bo b j 4) (bo b j 5) (bF b) h3 h4 h5 h1 hN h
  have hh := hd_tes (s := s) (bo b j 2) (bo b j 3) (bo b j 4) (bo b j 5) (bF b)
  simp only [List.append_assoc, List.cons_append, List.nil_append]
  split
  · exact sx_27 h0 hh ht
  · exact sx_28 h0 hh ht
theorem sx_famT : ∀ f, f ≤ 10 → ∀ s l, ScanTo kwT s l → ScanTo kwT (famT f ++ s) (linesT famL 0 f ++ l)
  | 0, _, s, l, h => h
  | f + 1, hf, s, l, h => by
    rw [linesT_snoc, famT, Nat.zero_add]
    simp only [List.append_assoc]
    exact sx_famT f (by omega) _ _ (sx_fam (by omega) h)
theorem sx_stmT {b : Bok} (hW : BW b) : ∀ k, k ≤ bS b → ∀ s l, ScanTo kwT s l → ScanTo kwT (stmT b k ++ s) (linesT (stmL b) 0 k ++ l)
  | 0, _, s, l, h => h
  | k + 1, hk, s, l, h => by
    have h1 := hW.2.2.1 k (by omega)
    have h2 := hW.1.2
    have h3 := hW.2.1
    rw [linesT_snoc, stmT, Nat.zero_add]
    simp only [List.append_assoc]
    exact sx_stmT hW k (by omega) _ _ (sx_tol (by omega) (by omega) (by omega) h)
theorem sx_ordT {b : Bok} (hW : BW b) : ∀ k, k ≤ bM b → ∀ s l, ScanTo kwT s l → ScanTo kwT (ordT b k ++ s) (linesT (ordL b) 0 k ++ l)
  | 0, _, s, l, h => h
  | k + 1, hk, s, l, h => by
    obtain ⟨a1, a2, a3, a4, a5, a6⟩ := hW.2.2.2.2 k (by omega)
    have h2 := hW.1.2
    have h3 := hW.2.1
    rw [linesT_snoc, ordT, Nat.zero_add]
    simp only [List.append_assoc]
    exact sx_ordT hW k (by omega) _ _ (sx_ord (by omega) (by omega) (by omega) (by omega) hW.1.1 (by omega) h)
theorem book_scan {b : Bok} (hW : BW b) : ScanTo kwT (bookT b) (bookL b) := by
  have h0 : ScanTo kwT ([] : List Int32) [] := sc_nil kwT
  have h := sx_famT (bF b) (by have := hW.1.2; omega) _ _ (sx_stmT hW (bS b) (Nat.le_refl _) _ _ (sx_ordT hW (bM b) (Nat.le_refl _) _ _ h0))
  rw [List.append_nil, List.append_nil] at h
  unfold bookT bookL
  rw [List.append_assoc]; exact h
theorem tes_len : ∀ (k d e f N : Nat), (tesL k d e f N).length ≤ 12
  | 0, _, _, _, _ => by rw [tesL]; decide
  | 1, _, _, _, _ => by rw [tesL]; simp only [List.length_cons, List.length_nil]; omega
  | 2, _, _, _, _ => by rw [tesL]; simp only [clX, List.length_cons, List.length_nil]; omega
  | 3, _, _, _, _ => by rw [tesL]; simp only [List.length_cons, List.length_nil]; omega
  | 4, _, _, _, _ => by rw [tesL]; simp only [clX, List.length_append, List.length_cons, List.length_nil]; omega
  | k + 5, _, _, _, _ => by rw [tesL5]; simp only [List.length_cons, List.length_nil]; omega
theorem ord_len (b : Bok) (j : Nat) : (ordL b j).length ≤ 15 := by
  have := tes_len (bo b j 2) (bo b j 3) (bo b j 4) (bo b j 5) (bF b)
  unfold ordL
  simp only [List.length_append, List.length_cons, List.length_nil]; omega
theorem stm_len (b : Bok) (j : Nat) : (stmL b j).length ≤ 9 := by
  unfold stmL tolL
  split
  · simp only [clX, List.length_append, List.length_cons, List.length_nil]; omega
  · split
    · simp only [clX, List.length_append, List.length_cons, List.length_nil]; omega
    · split <;> (simp only [clX, List.length_append, List.length_cons, List.length_nil]; omega)
theorem lines_len {α : Type} {L : Nat → List α} {n : Nat} (h : ∀ j, (L j).length ≤ n) : ∀ r i, (linesT L i r).length ≤ n * r
  | 0, _ => Nat.le_refl _
  | r + 1, i => by
    have h1 := lines_len h r (i + 1)
    have h2 := h i
    rw [linesT, List.length_append, Nat.mul_succ]; omega
theorem book_len {b : Bok} (hW : BW b) : (bookL b).length < 300 := by
  have h1 := lines_len (L := famL) (n := 3) (fun j => Nat.le_refl _) (bF b) 0
  have h2 := lines_len (L := stmL b) (stm_len b) (bS b) 0
  have h3 := lines_len (L := ordL b) (ord_len b) (bM b) 0
  have a1 := hW.1.2
  have a2 := hW.2.1
  have a3 := hW.2.2.2.1
  unfold bookL
  rw [List.length_append, List.length_append]; omega
