theorem kL_7 : Cond.methodLink RL 7 yX8_feed ∈ GW := gw_mem 813 (by decide +kernel) (by decide +kernel)
theorem bX8_feed : CBv yX8_feed cX8_feed 6 (some .int) 5 := ⟨⟨gw_mem 816 (by decide +kernel) (by decide +kernel), gw_mem 1 (by decide +kernel) (by decide +kernel), by decide +kernel, by decide⟩, gw_mem 814 (by decide +kernel) (by decide +kernel), gw_mem 815 (by decide +kernel) (by decide +kernel)⟩
theorem kL_15 : Cond.methodLink RL 15 yX8_trim ∈ GW := gw_mem 892 (by decide +kernel) (by decide +kernel)
theorem bX8_trim : CBv yX8_trim cX8_trim 2 (some .int) 1 := ⟨⟨gw_mem 895 (by decide +kernel) (by decide +kernel), gw_mem 1 (by decide +kernel) (by decide +kernel), by decide +kernel, by decide⟩, gw_mem 893 (by decide +kernel) (by decide +kernel), gw_mem 894 (by decide +kernel) (by decide +kernel)⟩
theorem kL_21 : Cond.methodLink RL 21 yX8_kindOf ∈ GW := gw_mem 916 (by decide +kernel) (by decide +kernel)
theorem bX8_kindOf : CBv yX8_kindOf cX8_kindOf 2 (some .int) 1 := ⟨⟨gw_mem 919 (by decide +kernel) (by decide +kernel), gw_mem 1 (by decide +kernel) (by decide +kernel), by decide +kernel, by decide⟩, gw_mem 917 (by decide +kernel) (by decide +kernel), gw_mem 918 (by decide +kernel) (by decide +kernel)⟩
theorem kL_26 : Cond.methodLink RL 26 yX8_firstClaimOf ∈ GW := gw_mem 943 (by decide +kernel) (by decide +kernel)
theorem bX8_firstClaimOf : CBv yX8_firstClaimOf cX8_firstClaimOf 2 (some .int) 1 := ⟨⟨gw_mem 946 (by decide +kernel) (by decide +kernel), gw_mem 1 (by decide +kernel) (by decide +kernel), by decide +kernel, by decide⟩, gw_mem 944 (by decide +kernel) (by decide +kernel), gw_mem 945 (by decide +kernel) (by decide +kernel)⟩
theorem kL_29 : Cond.methodLink RL 29 yX8_secondClaimOf ∈ GW := gw_mem 950 (by decide +kernel) (by decide +kernel)
theorem bX8_secondClaimOf : CBv yX8_secondClaimOf cX8_secondClaimOf 2 (some .int) 1 := ⟨⟨gw_mem 953 (by decide +kernel) (by decide +kernel), gw_mem 1 (by decide +kernel) (by decide +kernel), by decide +kernel, by decide⟩, gw_mem 951 (by decide +kernel) (by decide +kernel), gw_mem 952 (by decide +kernel) (by decide +kernel)⟩
theorem kL_32 : Cond.methodLink RL 32 yX8_stands ∈ GW := gw_mem 957 (by decide +kernel) (by decide +kernel)
theorem bX8_stands : CBv yX8_stands cX8_stands 2 (some .boolean) 1 := ⟨⟨gw_mem 960 (by decide +kernel) (by decide +kernel), gw_mem 1 (by decide +kernel) (by decide +kernel), by decide +kernel, by decide⟩, gw_mem 958 (by decide +kernel) (by decide +kernel), gw_mem 959 (by decide +kernel) (by decide +kernel)⟩
theorem kL_36 : Cond.methodLink RL 36 yX8_isNeedless ∈ GW := gw_mem 964 (by decide +kernel) (by decide +kernel)
theorem bX8_isNeedless : CBv yX8_isNeedless cX8_isNeedless 3 (some .boolean) 1 := ⟨⟨gw_mem 967 (by decide +kernel) (by decide +kernel), gw_mem 1 (by decide +kernel) (by decide +kernel), by decide +kernel, by decide⟩, gw_mem 965 (by decide +kernel) (by decide +kernel), gw_mem 966 (by decide +kernel) (by decide +kernel)⟩
theorem kL_39 : Cond.methodLink RL 39 yX8_follows ∈ GW := gw_mem 977 (by decide +kernel) (by decide +kernel)
theorem bX8_follows : CBv yX8_follows cX8_follows 3 (some .boolean) 2 := ⟨⟨gw_mem 980 (by decide +kernel) (by decide +kernel), gw_mem 1 (by decide +kernel) (by decide +kernel), by decide +kernel, by decide⟩, gw_mem 978 (by decide +kernel) (by decide +kernel), gw_mem 979 (by decide +kernel) (by decide +kernel)⟩
theorem kL_43 : Cond.methodLink RL 43 yX8_whatFollowsFrom ∈ GW := gw_mem 989 (by decide +kernel) (by decide +kernel)
theorem bX8_whatFollowsFrom : CBv yX8_whatFollowsFrom cX8_whatFollowsFrom 2 (some .int) 1 := ⟨⟨gw_mem 992 (by decide +kernel) (by decide +kernel), gw_mem 1 (by decide +kernel) (by decide +kernel), by decide +kernel, by decide⟩, gw_mem 990 (by decide +kernel) (by decide +kernel), gw_mem 991 (by decide +kernel) (by decide +kernel)⟩
theorem kL_46 : Cond.methodLink RL 46 yX8_fewestStatementsBetween ∈ GW := gw_mem 996 (by decide +kernel) (by decide +kernel)
theorem bX8_fewestStatementsBetween : CBv yX8_fewestStatementsBetween cX8_fewestStatementsBetween 4 (some .int) 2 := ⟨⟨gw_mem 999 (by decide +kernel) (by decide +kernel), gw_mem 1 (by decide +kernel) (by decide +kernel), by decide +kernel, by decide⟩, gw_mem 997 (by decide +kernel) (by decide +kernel), gw_mem 998 (by decide +kernel) (by decide +kernel)⟩
theorem kL_50 : Cond.methodLink RL 50 yX8_partOf ∈ GW := gw_mem 1012 (by decide +kernel) (by decide +kernel)
theorem bX8_partOf : CBv yX8_partOf cX8_partOf 2 (some .int) 1 := ⟨⟨gw_mem 1015 (by decide +kernel) (by decide +kernel), gw_mem 1 (by decide +kernel) (by decide +kernel), by decide +kernel, by decide⟩, gw_mem 1013 (by decide +kernel) (by decide +kernel), gw_mem 1014 (by decide +kernel) (by decide +kernel)⟩
theorem kL_53 : Cond.methodLink RL 53 yX8_partSize ∈ GW := gw_mem 1019 (by decide +kernel) (by decide +kernel)
theorem bX8_partSize : CBv yX8_partSize cX8_partSize 2 (some .int) 1 := ⟨⟨gw_mem 1022 (by decide +kernel) (by decide +kernel), gw_mem 1 (by decide +kernel) (by decide +kernel), by decide +kernel, by decide⟩, gw_mem 1020 (by decide +kernel) (by decide +kernel), gw_mem 1021 (by decide +kernel) (by decide +kernel)⟩
theorem kL_56 : Cond.methodLink RL 56 yX8_peacesWith ∈ GW := gw_mem 1026 (by decide +kernel) (by decide +kernel)
theorem bX8_peacesWith : CBv yX8_peacesWith cX8_peacesWith 2 (some .int) 1 := ⟨⟨gw_mem 1029 (by decide +kernel) (by decide +kernel), gw_mem 1 (by decide +kernel) (by decide +kernel), by decide +kernel, by decide⟩, gw_mem 1027 (by decide +kernel) (by decide +kernel), gw_mem 1028 (by decide +kernel) (by decide +kernel)⟩
theorem kL_59 : Cond.methodLink RL 59 yX8_isPossible ∈ GW := gw_mem 1033 (by decide +kernel) (by decide +kernel)
theorem bX8_isPossible : CBv yX8_isPossible cX8_isPossible 2 (some .boolean) 1 := ⟨⟨gw_mem 1036 (by decide +kernel) (by decide +kernel), gw_mem 1 (by decide +kernel) (by decide +kernel), by decide +kernel, by decide⟩, gw_mem 1034 (by decide +kernel) (by decide +kernel), gw_mem 1035 (by decide +kernel) (by decide +kernel)⟩
theorem kL_62 : Cond.methodLink RL 62 yX8_isSettled ∈ GW := gw_mem 1040 (by decide +kernel) (by decide +kernel)
theorem bX8_isSettled : CBv yX8_isSettled cX8_isSettled 2 (some .boolean) 1 := ⟨⟨gw_mem 1043 (by decide +kernel) (by decide +kernel), gw_mem 1 (by decide +kernel) (by decide +kernel), by decide +kernel, by decide⟩, gw_mem 1041 (by decide +kernel) (by decide +kernel), gw_mem 1042 (by decide +kernel) (by decide +kernel)⟩
theorem kL_65 : Cond.methodLink RL 65 yX8_ridesInPeace ∈ GW := gw_mem 1052 (by decide +kernel) (by decide +kernel)
theorem bX8_ridesInPeace : CBv yX8_ridesInPeace cX8_ridesInPeace 2 (some .boolean) 1 := ⟨⟨gw_mem 1055 (by decide +kernel) (by decide +kernel), gw_mem 1 (by decide +kernel) (by decide +kernel), by decide +kernel, by decide⟩, gw_mem 1053 (by decide +kernel) (by decide +kernel), gw_mem 1054 (by decide +kernel) (by decide +kernel)⟩
theorem kL_68 : Cond.methodLink RL 68 yX8_ridersInPeace ∈ GW := gw_mem 1060 (by decide +kernel) (by decide +kernel)
theorem bX8_ridersInPeace : CBv yX8_ridersInPeace cX8_ridersInPeace 1 (some .int) 0 := ⟨⟨gw_mem 1063 (by decide +kernel) (by decide +kernel), gw_mem 1 (by decide +kernel) (by decide +kernel), by decide +kernel, by decide⟩, gw_mem 1061 (by decide +kernel) (by decide +kernel), gw_mem 1062 (by decide +kernel) (by decide +kernel)⟩
theorem kL_72 : Cond.methodLink RL 72 yX8_blamedFamily ∈ GW := gw_mem 1067 (by decide +kernel) (by decide +kernel)
theorem bX8_blamedFamily : CBv yX8_blamedFamily cX8_blamedFamily 2 (some .int) 0 := ⟨⟨gw_mem 1070 (by decide +kernel) (by decide +kernel), gw_mem 1 (by decide +kernel) (by decide +kernel), by decide +kernel, by decide⟩, gw_mem 1068 (by decide +kernel) (by decide +kernel), gw_mem 1069 (by decide +kernel) (by decide +kernel)⟩
theorem kL_75 : Cond.methodLink RL 75 yX8_breakStatement ∈ GW := gw_mem 1075 (by decide +kernel) (by decide +kernel)
theorem bX8_breakStatement : CBv yX8_breakStatement cX8_breakStatement 2 (some .int) 1 := ⟨⟨gw_mem 1078 (by decide +kernel) (by decide +kernel), gw_mem 1 (by decide +kernel) (by decide +kernel), by decide +kernel, by decide⟩, gw_mem 1076 (by decide +kernel) (by decide +kernel), gw_mem 1077 (by decide +kernel) (by decide +kernel)⟩
theorem kL_78 : Cond.methodLink RL 78 yX8_renewStatement ∈ GW := gw_mem 1082 (by decide +kernel) (by decide +kernel)
theorem bX8_renewStatement : CBv yX8_renewStatement cX8_renewStatement 2 (some .int) 1 := ⟨⟨gw_mem 1085 (by decide +kernel) (by decide +kernel), gw_mem 1 (by decide +kernel) (by decide +kernel), by decide +kernel, by decide⟩, gw_mem 1083 (by decide +kernel) (by decide +kernel), gw_mem 1084 (by decide +kernel) (by decide +kernel)⟩
theorem kL_81 : Cond.methodLink RL 81 yX8_passDays ∈ GW := gw_mem 1091 (by decide +kernel) (by decide +kernel)
theorem bX8_passDays : CBv yX8_passDays cX8_passDays 3 (some .int) 1 := ⟨⟨gw_mem 1094 (by decide +kernel) (by decide +kernel), gw_mem 1 (by decide +kernel) (by decide +kernel), by decide +kernel, by decide⟩, gw_mem 1092 (by decide +kernel) (by decide +kernel), gw_mem 1093 (by decide +kernel) (by decide +kernel)⟩
theorem kL_84 : Cond.methodLink RL 84 yX8_standingAfter ∈ GW := gw_mem 1103 (by decide +kernel) (by decide +kernel)
theorem bX8_standingAfter : CBv yX8_standingAfter cX8_standingAfter 2 (some .int) 1 := ⟨⟨gw_mem 1106 (by decide +kernel) (by decide +kernel), gw_mem 1 (by decide +kernel) (by decide +kernel), by decide +kernel, by decide⟩, gw_mem 1104 (by decide +kernel) (by decide +kernel), gw_mem 1105 (by decide +kernel) (by decide +kernel)⟩
theorem kL_87 : Cond.methodLink RL 87 yX8_peacesAfter ∈ GW := gw_mem 1110 (by decide +kernel) (by decide +kernel)
theorem bX8_peacesAfter : CBv yX8_peacesAfter cX8_peacesAfter 2 (some .int) 1 := ⟨⟨gw_mem 1113 (by decide +kernel) (by decide +kernel), gw_mem 1 (by decide +kernel) (by decide +kernel), by decide +kernel, by decide⟩, gw_mem 1111 (by decide +kernel) (by decide +kernel), gw_mem 1112 (by decide +kernel) (by decide +kernel)⟩
theorem kL_90 : Cond.methodLink RL 90 yX8_mostTellingOath ∈ GW := gw_mem 1117 (by decide +kernel) (by decide +kernel)
theorem bX8_mostTellingOath : CBv yX8_mostTellingOath cX8_mostTellingOath 5 (some .int) 0 := ⟨⟨gw_mem 1120 (by decide +kernel) (by decide +kernel), gw_mem 1 (by decide +kernel) (by decide +kernel), by decide +kernel, by decide⟩, gw_mem 1118 (by decide +kernel) (by decide +kernel), gw_mem 1119 (by decide +kernel) (by decide +kernel)⟩
/-! The law's calls that catch: the class beside the row out -/
def LFO : List Kd := LF ++ [.inr (1, 1)]
theorem sub_LFO : Sub 0 LF LFO = true := by decide +kernel
def wres (code : String → Int32) (cv : Int32 → Int64) (x : XS) (r : RT) : Option Value → XS → Prop := fun v x' => match r with
  | .inl e => v = some (.int (code e.1)) ∧ x' = xmix 0 48 e.2 x
  | .inr (some (.int w), x1) => v = some (.int 0) ∧ x' = setL (xmix 0 48 x1 x) 48 0 (cv w)
  | .inr _ => False
def code1 (_ : String) : Int32 := 1
def code2 (E : String) : Int32 := if E = "java/lang/IndexOutOfBoundsException" then 1 else 2
def cvI (w : Int32) : Int64 := w.toInt64
def cvB (w : Int32) : Int64 := if w = 0 then 0 else 1
theorem castISE : Cond.castable "java/lang/IllegalStateException" "java/lang/IllegalStateException" ∈ NW := nw_mem 819 (by decide +kernel) rfl
theorem castIAE : Cond.castable "java/lang/IllegalArgumentException" "java/lang/IllegalArgumentException" ∈ NW := nw_mem 898 (by decide +kernel) rfl
theorem castIOB : Cond.castable "java/lang/IndexOutOfBoundsException" "java/lang/IndexOutOfBoundsException" ∈ NW := nw_mem 926 (by decide +kernel) rfl
theorem linkISE : Cond.classLink RL 13 "java/lang/IllegalStateException" ∈ GW := gw_mem 812 (by decide +kernel) (by decide +kernel)
theorem linkIAE : Cond.classLink RL 19 "java/lang/IllegalArgumentException" ∈ GW := gw_mem 891 (by decide +kernel) (by decide +kernel)
theorem linkIOB : Cond.classLink RL 24 "java/lang/IndexOutOfBoundsException" ∈ GW := gw_mem 915 (by decide +kernel) (by decide +kernel)
set_option maxHeartbeats 4000000 in
set_option maxRecDepth 100000 in
theorem w_feed {g : Gx} {a : Nat → Nat} {x : XS} {p : Int32} {q : Int32} {r : Int32} {s : Int32} {t : Int32} {u : RT} (hfl : g.1.stackTraces = false) (h : f_X8_feed p q r s t x = some u) (hE : ∀ (E : String) (x1 : XS), u = .inl (E, x1) → E = "java/lang/IllegalStateException") (hI : ∀ (v : Option Value) (x1 : XS), u = .inr (v, x1) → ∃ w : Int32, v = some (.int w)) : Mw g yL_feed cL_feed 8 (some .int) [(0, 16, 19, 13)] 10 3 18 LFO a x [.ref (a 0), .int p, .int q, .int r, .int s, .int t, .ref (a 48)] (wres code1 cvI x u) := by
  refine Mw_of (by decide +kernel) (Nat.le_of_ble_eq_true rfl) ?_
  intro k hk he hg ht
  subst hg
  refine xaload hk dL_feed_0 rfl ?_
  refine xiconst (v := 0) hk dL_feed_2 (by decide) ?_
  refine xaload_n hk dL_feed_3 rfl ?_
  refine xiload_n hk dL_feed_4 rfl ?_
  refine xiload_n hk dL_feed_5 rfl ?_
  refine xiload_n hk dL_feed_6 rfl ?_
  refine xiload hk dL_feed_7 rfl ?_
  refine xiload hk dL_feed_9 rfl ?_
  refine xcallVTC 0 sub_LFO pa0 px0 hk ht (c_X8_feed hfl h) bX8_feed kL_7 dL_feed_11 rfl ⟨_, _, _, _, rfl, rfl⟩ rfl (by decide) ⟨Nat.le_of_ble_eq_true rfl, Nat.le_of_ble_eq_true rfl⟩ (Nat.le_of_ble_eq_true rfl) (fun E x1 hr => ?_) (fun v x1 hr => ?_)
  · subst hr
    obtain rfl := hE E x1 rfl
    refine ⟨[], ⟨0, 16, 19, 13⟩, [], "java/lang/IllegalStateException", rfl, (fun _ h => absurd h List.not_mem_nil), by decide, by decide, linkISE, castISE, fun q9 => ?_⟩
    refine xastore hk dL_feed_19 (by decide) ?_
    refine xiconst (v := 1) hk dL_feed_21 (by decide) ?_
    refine xiret hk he dL_feed_22 ⟨Nat.le_of_ble_eq_true rfl, Nat.le_of_ble_eq_true rfl⟩ ?_
    exact ⟨rfl, rfl⟩
  · subst hr
    obtain ⟨w, rfl⟩ := hI v x1 rfl
    refine xi2l hk dL_feed_14 ?_
    refine xlast hk dL_feed_15 rfl (inB_v (by decide)) ?_
    refine xgoto hk 23 dL_feed_16 (by decide) ?_
    refine xiconst (v := 0) hk dL_feed_23 (by decide) ?_
    refine xiret hk he dL_feed_24 ⟨Nat.le_of_ble_eq_true rfl, Nat.le_of_ble_eq_true rfl⟩ ?_
    exact ⟨rfl, rfl⟩
set_option maxHeartbeats 4000000 in
set_option maxRecDepth 100000 in
theorem w_trim {g : Gx} {a : Nat → Nat} {x : XS} {p : Int32} {u : RT} (hfl : g.1.stackTraces = false) (h : f_X8_trim p x = some u) (hE : ∀ (E : String) (x1 : XS), u = .inl (E, x1) → E = "java/lang/IllegalArgumentException") (hI : ∀ (v : Option Value) (x1 : XS), u = .inr (v, x1) → ∃ w : Int32, v = some (.int w)) : Mw g yL_trim cL_trim 4 (some .int) [(0, 9, 12, 19)] 10 3 18 LFO a x [.ref (a 0), .int p, .ref (a 48)] (wres code1 cvI x u) := by
  refine Mw_of (by decide +kernel) (Nat.le_of_ble_eq_true rfl) ?_
  intro k hk he hg ht
  subst hg
  refine xaload_n hk dL_trim_0 rfl ?_
  refine xiconst (v := 0) hk dL_trim_1 (by decide) ?_
  refine xaload_n hk dL_trim_2 rfl ?_
  refine xiload_n hk dL_trim_3 rfl ?_
  refine xcallVTC 0 sub_LFO pa0 px0 hk ht (c_X8_trim hfl h) bX8_trim kL_15 dL_trim_4 rfl ⟨_, _, _, _, rfl, rfl⟩ rfl (by decide) ⟨Nat.le_of_ble_eq_true rfl, Nat.le_of_ble_eq_true rfl⟩ (Nat.le_of_ble_eq_true rfl) (fun E x1 hr => ?_) (fun v x1 hr => ?_)
  · subst hr
    obtain rfl := hE E x1 rfl
    refine ⟨[], ⟨0, 9, 12, 19⟩, [], "java/lang/IllegalArgumentException", rfl, (fun _ h => absurd h List.not_mem_nil), by decide, by decide, linkIAE, castIAE, fun q9 => ?_⟩
    refine xastore_n hk dL_trim_12 (by decide) ?_
    refine xiconst (v := 1) hk dL_trim_13 (by decide) ?_
    refine xiret hk he dL_trim_14 ⟨Nat.le_of_ble_eq_true rfl, Nat.le_of_ble_eq_true rfl⟩ ?_
    exact ⟨rfl, rfl⟩
  · subst hr
    obtain ⟨w, rfl⟩ := hI v x1 rfl
    refine xi2l hk dL_trim_7 ?_
    refine xlast hk dL_trim_8 rfl (inB_v (by decide)) ?_
    refine xgoto hk 15 dL_trim_9 (by decide) ?_
    refine xiconst (v := 0) hk dL_trim_15 (by decide) ?_
    refine xiret hk he dL_trim_16 ⟨Nat.le_of_ble_eq_true rfl, Nat.le_of_ble_eq_true rfl⟩ ?_
    exact ⟨rfl, rfl⟩
set_option maxHeartbeats 4000000 in
set_option maxRecDepth 100000 in
theorem w_kindOf {g : Gx} {a : Nat → Nat} {x : XS} {p : Int32} {u : RT} (hfl : g.1.stackTraces = false) (h : f_X8_kindOf p x = some u) (hE : ∀ (E : String) (x1 : XS), u = .inl (E, x1) → E = "java/lang/IndexOutOfBoundsException") (hI : ∀ (v : Option Value) (x1 : XS), u = .inr (v, x1) → ∃ w : Int32, v = some (.int w)) : Mw g yL_kindOf cL_kindOf 4 (some .int) [(0, 9, 12, 24)] 10 3 18 LFO a x [.ref (a 0), .int p, .ref (a 48)] (wres code1 cvI x u) := by
  refine Mw_of (by decide +kernel) (Nat.le_of_ble_eq_true rfl) ?_
  intro k hk he hg ht
  subst hg
  refine xaload_n hk dL_kindOf_0 rfl ?_
  refine xiconst (v := 0) hk dL_kindOf_1 (by decide) ?_
  refine xaload_n hk dL_kindOf_2 rfl ?_
  refine xiload_n hk dL_kindOf_3 rfl ?_
  refine xcallVTC 0 sub_LFO pa0 px0 hk ht (c_X8_kindOf hfl h) bX8_kindOf kL_21 dL_kindOf_4 rfl ⟨_, _, _, _, rfl, rfl⟩ rfl (by decide) ⟨Nat.le_of_ble_eq_true rfl, Nat.le_of_ble_eq_true rfl⟩ (Nat.le_of_ble_eq_true rfl) (fun E x1 hr => ?_) (fun v x1 hr => ?_)
  · subst hr
    obtain rfl := hE E x1 rfl
    refine ⟨[], ⟨0, 9, 12, 24⟩, [], "java/lang/IndexOutOfBoundsException", rfl, (fun _ h => absurd h List.not_mem_nil), by decide, by decide, linkIOB, castIOB, fun q9 => ?_⟩
    refine xastore_n hk dL_kindOf_12 (by decide) ?_
    refine xiconst (v := 1) hk dL_kindOf_13 (by decide) ?_
    refine xiret hk he dL_kindOf_14 ⟨Nat.le_of_ble_eq_true rfl, Nat.le_of_ble_eq_true rfl⟩ ?_
    exact ⟨rfl, rfl⟩
  · subst hr
    obtain ⟨w, rfl⟩ := hI v x1 rfl
    refine xi2l hk dL_kindOf_7 ?_
    refine xlast hk dL_kindOf_8 rfl (inB_v (by decide)) ?_
    refine xgoto hk 15 dL_kindOf_9 (by decide) ?_
    refine xiconst (v := 0) hk dL_kindOf_15 (by decide) ?_
    refine xiret hk he dL_kindOf_16 ⟨Nat.le_of_ble_eq_true rfl, Nat.le_of_ble_eq_true rfl⟩ ?_
    exact ⟨rfl, rfl⟩
set_option maxHeartbeats 4000000 in
set_option maxRecDepth 100000 in
theorem w_firstClaimOf {g : Gx} {a : Nat → Nat} {x : XS} {p : Int32} {u : RT} (hfl : g.1.stackTraces = false) (h : f_X8_firstClaimOf p x = some u) (hE : ∀ (E : String) (x1 : XS), u = .inl (E, x1) → E = "java/lang/IndexOutOfBoundsException") (hI : ∀ (v : Option Value) (x1 : XS), u = .inr (v, x1) → ∃ w : Int32, v = some (.int w)) : Mw g yL_firstClaimOf cL_firstClaimOf 4 (some .int) [(0, 9, 12, 24)] 10 3 18 LFO a x [.ref (a 0), .int p, .ref (a 48)] (wres code1 cvI x u) := by
  refine Mw_of (by decide +kernel) (Nat.le_of_ble_eq_true rfl) ?_
  intro k hk he hg ht
  subst hg
  refine xaload_n hk dL_firstClaimOf_0 rfl ?_
  refine xiconst (v := 0) hk dL_firstClaimOf_1 (by decide) ?_
  refine xaload_n hk dL_firstClaimOf_2 rfl ?_
  refine xiload_n hk dL_firstClaimOf_3 rfl ?_
  refine xcallVTC 0 sub_LFO pa0 px0 hk ht (c_X8_firstClaimOf hfl h) bX8_firstClaimOf kL_26 dL_firstClaimOf_4 rfl ⟨_, _, _, _, rfl, rfl⟩ rfl (by decide) ⟨Nat.le_of_ble_eq_true rfl, Nat.le_of_ble_eq_true rfl⟩ (Nat.le_of_ble_eq_true rfl) (fun E x1 hr => ?_) (fun v x1 hr => ?_)
  · subst hr
    obtain rfl := hE E x1 rfl
    refine ⟨[], ⟨0, 9, 12, 24⟩, [], "java/lang/IndexOutOfBoundsException", rfl, (fun _ h => absurd h List.not_mem_nil), by decide, by decide, linkIOB, castIOB, fun q9 => ?_⟩
    refine xastore_n hk dL_firstClaimOf_12 (by decide) ?_
    refine xiconst (v := 1) hk dL_firstClaimOf_13 (by decide) ?_
    refine xiret hk he dL_firstClaimOf_14 ⟨Nat.le_of_ble_eq_true rfl, Nat.le_of_ble_eq_true rfl⟩ ?_
    exact ⟨rfl, rfl⟩
  · subst hr
    obtain ⟨w, rfl⟩ := hI v x1 rfl
    refine xi2l hk dL_firstClaimOf_7 ?_
    refine xlast hk dL_firstClaimOf_8 rfl (inB_v (by decide)) ?_
    refine xgoto hk 15 dL_firstClaimOf_9 (by decide) ?_
    refine xiconst (v := 0) hk dL_firstClaimOf_15 (by decide) ?_
    refine xiret hk he dL_firstClaimOf_16 ⟨Nat.le_of_ble_eq_true rfl, Nat.le_of_ble_eq_true rfl⟩ ?_
    exact ⟨rfl, rfl⟩
set_option maxHeartbeats 4000000 in
set_option maxRecDepth 100000 in
theorem w_secondClaimOf {g : Gx} {a : Nat → Nat} {x : XS} {p : Int32} {u : RT} (hfl : g.1.stackTraces = false) (h : f_X8_secondClaimOf p x = some u) (hE : ∀ (E : String) (x1 : XS), u = .inl (E, x1) → E = "java/lang/IndexOutOfBoundsException") (hI : ∀ (v : Option Value) (x1 : XS), u = .inr (v, x1) → ∃ w : Int32, v = some (.int w)) : Mw g yL_secondClaimOf cL_secondClaimOf 4 (some .int) [(0, 9, 12, 24)] 10 3 18 LFO a x [.ref (a 0), .int p, .ref (a 48)] (wres code1 cvI x u) := by
  refine Mw_of (by decide +kernel) (Nat.le_of_ble_eq_true rfl) ?_
  intro k hk he hg ht
  subst hg
  refine xaload_n hk dL_secondClaimOf_0 rfl ?_
  refine xiconst (v := 0) hk dL_secondClaimOf_1 (by decide) ?_
  refine xaload_n hk dL_secondClaimOf_2 rfl ?_
  refine xiload_n hk dL_secondClaimOf_3 rfl ?_
  refine xcallVTC 0 sub_LFO pa0 px0 hk ht (c_X8_secondClaimOf hfl h) bX8_secondClaimOf kL_29 dL_secondClaimOf_4 rfl ⟨_, _, _, _, rfl, rfl⟩ rfl (by decide) ⟨Nat.le_of_ble_eq_true rfl, Nat.le_of_ble_eq_true rfl⟩ (Nat.le_of_ble_eq_true rfl) (fun E x1 hr => ?_) (fun v x1 hr => ?_)
  · subst hr
    obtain rfl := hE E x1 rfl
    refine ⟨[], ⟨0, 9, 12, 24⟩, [], "java/lang/IndexOutOfBoundsException", rfl, (fun _ h => absurd h List.not_mem_nil), by decide, by decide, linkIOB, castIOB, fun q9 => ?_⟩
    refine xastore_n hk dL_secondClaimOf_12 (by decide) ?_
    refine xiconst (v := 1) hk dL_secondClaimOf_13 (by decide) ?_
    refine xiret hk he dL_secondClaimOf_14 ⟨Nat.le_of_ble_eq_true rfl, Nat.le_of_ble_eq_true rfl⟩ ?_
    exact ⟨rfl, rfl⟩
  · subst hr
    obtain ⟨w, rfl⟩ := hI v x1 rfl
    refine xi2l hk dL_secondClaimOf_7 ?_
    refine xlast hk dL_secondClaimOf_8 rfl (inB_v (by decide)) ?_
    refine xgoto hk 15 dL_secondClaimOf_9 (by decide) ?_
    refine xiconst (v := 0) hk dL_secondClaimOf_15 (by decide) ?_
    refine xiret hk he dL_secondClaimOf_16 ⟨Nat.le_of_ble_eq_true rfl, Nat.le_of_ble_eq_true rfl⟩ ?_
    exact ⟨rfl, rfl⟩
set_option maxHeartbeats 4000000 in
set_option maxRecDepth 100000 in
theorem w_stands {g : Gx} {a : Nat → Nat} {x : XS} {p : Int32} {u : RT} (hfl : g.1.stackTraces = false) (h : f_X8_stands p x = some u) (hE : ∀ (E : String) (x1 : XS), u = .inl (E, x1) → E = "java/lang/IndexOutOfBoundsException") (hI : ∀ (v : Option Value) (x1 : XS), u = .inr (v, x1) → ∃ w : Int32, v = some (.int w)) : Mw g yL_stands cL_stands 4 (some .int) [(0, 16, 19, 24)] 10 3 18 LFO a x [.ref (a 0), .int p, .ref (a 48)] (wres code1 cvB x u) := by
  refine Mw_of (by decide +kernel) (Nat.le_of_ble_eq_true rfl) ?_
  intro k hk he hg ht
  subst hg
  refine xaload_n hk dL_stands_0 rfl ?_
  refine xiconst (v := 0) hk dL_stands_1 (by decide) ?_
  refine xaload_n hk dL_stands_2 rfl ?_
  refine xiload_n hk dL_stands_3 rfl ?_
  refine xcallVTC 0 sub_LFO pa0 px0 hk ht (c_X8_stands hfl h) bX8_stands kL_32 dL_stands_4 rfl ⟨_, _, _, _, rfl, rfl⟩ rfl (by decide) ⟨Nat.le_of_ble_eq_true rfl, Nat.le_of_ble_eq_true rfl⟩ (Nat.le_of_ble_eq_true rfl) (fun E x1 hr => ?_) (fun v x1 hr => ?_)
  · subst hr
    obtain rfl := hE E x1 rfl
    refine ⟨[], ⟨0, 16, 19, 24⟩, [], "java/lang/IndexOutOfBoundsException", rfl, (fun _ h => absurd h List.not_mem_nil), by decide, by decide, linkIOB, castIOB, fun q9 => ?_⟩
    refine xastore_n hk dL_stands_19 (by decide) ?_
    refine xiconst (v := 1) hk dL_stands_20 (by decide) ?_
    refine xiret hk he dL_stands_21 ⟨Nat.le_of_ble_eq_true rfl, Nat.le_of_ble_eq_true rfl⟩ ?_
    exact ⟨rfl, rfl⟩
  · subst hr
    obtain ⟨w, rfl⟩ := hI v x1 rfl
    refine xif_eq hk 14 dL_stands_7 (by decide) (fun hz => ?_) (fun hz => ?_)
    · refine xlconst (v := 0) hk dL_stands_14 (by decide) ?_
      refine xlast hk dL_stands_15 rfl (inB_v (by decide)) ?_
      refine xgoto hk 22 dL_stands_16 (by decide) ?_
      refine xiconst (v := 0) hk dL_stands_22 (by decide) ?_
      refine xiret hk he dL_stands_23 ⟨Nat.le_of_ble_eq_true rfl, Nat.le_of_ble_eq_true rfl⟩ ?_
      exact ⟨rfl, by rw [cvB, if_pos hz]; rfl⟩
    · refine xlconst (v := 1) hk dL_stands_10 (by decide) ?_
      refine xgoto hk 15 dL_stands_11 (by decide) ?_
      refine xlast hk dL_stands_15 rfl (inB_v (by decide)) ?_
      refine xgoto hk 22 dL_stands_16 (by decide) ?_
      refine xiconst (v := 0) hk dL_stands_22 (by decide) ?_
      refine xiret hk he dL_stands_23 ⟨Nat.le_of_ble_eq_true rfl, Nat.le_of_ble_eq_true rfl⟩ ?_
      exact ⟨rfl, by rw [cvB, if_neg hz]; rfl⟩
set_option maxHeartbeats 4000000 in
set_option maxRecDepth 100000 in
theorem w_isNeedless {g : Gx} {a : Nat → Nat} {x : XS} {p : Int32} {u : RT} (hfl : g.1.stackTraces = false) (h : f_X8_isNeedless p x = some u) (hE : ∀ (E : String) (x1 : XS), u = .inl (E, x1) → E = "java/lang/IndexOutOfBoundsException" ∨ E = "java/lang/IllegalStateException") (hI : ∀ (v : Option Value) (x1 : XS), u = .inr (v, x1) → ∃ w : Int32, v = some (.int w)) : Mw g yL_isNeedless cL_isNeedless 4 (some .int) [(0, 16, 19, 24), (0, 16, 22, 13)] 10 3 18 LFO a x [.ref (a 0), .int p, .ref (a 48)] (wres code2 cvB x u) := by
  refine Mw_of (by decide +kernel) (Nat.le_of_ble_eq_true rfl) ?_
  intro k hk he hg ht
  subst hg
  refine xaload_n hk dL_isNeedless_0 rfl ?_
  refine xiconst (v := 0) hk dL_isNeedless_1 (by decide) ?_
  refine xaload_n hk dL_isNeedless_2 rfl ?_
  refine xiload_n hk dL_isNeedless_3 rfl ?_
  refine xcallVTC 0 sub_LFO pa0 px0 hk ht (c_X8_isNeedless hfl h) bX8_isNeedless kL_36 dL_isNeedless_4 rfl ⟨_, _, _, _, rfl, rfl⟩ rfl (by decide) ⟨Nat.le_of_ble_eq_true rfl, Nat.le_of_ble_eq_true rfl⟩ (Nat.le_of_ble_eq_true rfl) (fun E x1 hr => ?_) (fun v x1 hr => ?_)
  · subst hr
    rcases hE E x1 rfl with rfl | rfl
    · refine ⟨[], ⟨0, 16, 19, 24⟩, [⟨0, 16, 22, 13⟩], "java/lang/IndexOutOfBoundsException", rfl, (fun _ h => absurd h List.not_mem_nil), by decide, by decide, linkIOB, castIOB, fun q9 => ?_⟩
      refine xastore_n hk dL_isNeedless_19 (by decide) ?_
      refine xiconst (v := 1) hk dL_isNeedless_20 (by decide) ?_
      refine xiret hk he dL_isNeedless_21 ⟨Nat.le_of_ble_eq_true rfl, Nat.le_of_ble_eq_true rfl⟩ ?_
      exact ⟨rfl, rfl⟩
    · refine ⟨[⟨0, 16, 19, 24⟩], ⟨0, 16, 22, 13⟩, [], "java/lang/IllegalStateException", rfl, (List.forall_mem_cons.mpr ⟨⟨by decide, linkIOB, rfl⟩, fun _ h => absurd h List.not_mem_nil⟩), by decide, by decide, linkISE, castISE, fun q9 => ?_⟩
      refine xastore_n hk dL_isNeedless_22 (by decide) ?_
      refine xiconst (v := 2) hk dL_isNeedless_23 (by decide) ?_
      refine xiret hk he dL_isNeedless_24 ⟨Nat.le_of_ble_eq_true rfl, Nat.le_of_ble_eq_true rfl⟩ ?_
      exact ⟨rfl, rfl⟩
  · subst hr
    obtain ⟨w, rfl⟩ := hI v x1 rfl
    refine xif_eq hk 14 dL_isNeedless_7 (by decide) (fun hz => ?_) (fun hz => ?_)
    · refine xlconst (v := 0) hk dL_isNeedless_14 (by decide) ?_
      refine xlast hk dL_isNeedless_15 rfl (inB_v (by decide)) ?_
      refine xgoto hk 25 dL_isNeedless_16 (by decide) ?_
      refine xiconst (v := 0) hk dL_isNeedless_25 (by decide) ?_
      refine xiret hk he dL_isNeedless_26 ⟨Nat.le_of_ble_eq_true rfl, Nat.le_of_ble_eq_true rfl⟩ ?_
      exact ⟨rfl, by rw [cvB, if_pos hz]; rfl⟩
    · refine xlconst (v := 1) hk dL_isNeedless_10 (by decide) ?_
      refine xgoto hk 15 dL_isNeedless_11 (by decide) ?_
      refine xlast hk dL_isNeedless_15 rfl (inB_v (by decide)) ?_
      refine xgoto hk 25 dL_isNeedless_16 (by decide) ?_
      refine xiconst (v := 0) hk dL_isNeedless_25 (by decide) ?_
      refine xiret hk he dL_isNeedless_26 ⟨Nat.le_of_ble_eq_true rfl, Nat.le_of_ble_eq_true rfl⟩ ?_
      exact ⟨rfl, by rw [cvB, if_neg hz]; rfl⟩
set_option maxHeartbeats 4000000 in
set_option maxRecDepth 100000 in
theorem w_follows {g : Gx} {a : Nat → Nat} {x : XS} {p : Int32} {q : Int32} {u : RT} (hfl : g.1.stackTraces = false) (h : f_X8_follows p q x = some u) (hE : ∀ (E : String) (x1 : XS), u = .inl (E, x1) → E = "java/lang/IndexOutOfBoundsException") (hI : ∀ (v : Option Value) (x1 : XS), u = .inr (v, x1) → ∃ w : Int32, v = some (.int w)) : Mw g yL_follows cL_follows 5 (some .int) [(0, 17, 20, 24)] 10 3 18 LFO a x [.ref (a 0), .int p, .int q, .ref (a 48)] (wres code1 cvB x u) := by
  refine Mw_of (by decide +kernel) (Nat.le_of_ble_eq_true rfl) ?_
  intro k hk he hg ht
  subst hg
  refine xaload_n hk dL_follows_0 rfl ?_
  refine xiconst (v := 0) hk dL_follows_1 (by decide) ?_
  refine xaload_n hk dL_follows_2 rfl ?_
  refine xiload_n hk dL_follows_3 rfl ?_
  refine xiload_n hk dL_follows_4 rfl ?_
  refine xcallVTC 0 sub_LFO pa0 px0 hk ht (c_X8_follows hfl h) bX8_follows kL_39 dL_follows_5 rfl ⟨_, _, _, _, rfl, rfl⟩ rfl (by decide) ⟨Nat.le_of_ble_eq_true rfl, Nat.le_of_ble_eq_true rfl⟩ (Nat.le_of_ble_eq_true rfl) (fun E x1 hr => ?_) (fun v x1 hr => ?_)
  · subst hr
    obtain rfl := hE E x1 rfl
    refine ⟨[], ⟨0, 17, 20, 24⟩, [], "java/lang/IndexOutOfBoundsException", rfl, (fun _ h => absurd h List.not_mem_nil), by decide, by decide, linkIOB, castIOB, fun q9 => ?_⟩
    refine xastore hk dL_follows_20 (by decide) ?_
    refine xiconst (v := 1) hk dL_follows_22 (by decide) ?_
    refine xiret hk he dL_follows_23 ⟨Nat.le_of_ble_eq_true rfl, Nat.le_of_ble_eq_true rfl⟩ ?_
    exact ⟨rfl, rfl⟩
  · subst hr
    obtain ⟨w, rfl⟩ := hI v x1 rfl
    refine xif_eq hk 15 dL_follows_8 (by decide) (fun hz => ?_) (fun hz => ?_)
    · refine xlconst (v := 0) hk dL_follows_15 (by decide) ?_
      refine xlast hk dL_follows_16 rfl (inB_v (by decide)) ?_
      refine xgoto hk 24 dL_follows_17 (by decide) ?_
      refine xiconst (v := 0) hk dL_follows_24 (by decide) ?_
      refine xiret hk he dL_follows_25 ⟨Nat.le_of_ble_eq_true rfl, Nat.le_of_ble_eq_true rfl⟩ ?_
      exact ⟨rfl, by rw [cvB, if_pos hz]; rfl⟩
    · refine xlconst (v := 1) hk dL_follows_11 (by decide) ?_
      refine xgoto hk 16 dL_follows_12 (by decide) ?_
      refine xlast hk dL_follows_16 rfl (inB_v (by decide)) ?_
      refine xgoto hk 24 dL_follows_17 (by decide) ?_
      refine xiconst (v := 0) hk dL_follows_24 (by decide) ?_
      refine xiret hk he dL_follows_25 ⟨Nat.le_of_ble_eq_true rfl, Nat.le_of_ble_eq_true rfl⟩ ?_
      exact ⟨rfl, by rw [cvB, if_neg hz]; rfl⟩
set_option maxHeartbeats 4000000 in
set_option maxRecDepth 100000 in
theorem w_whatFollowsFrom {g : Gx} {a : Nat → Nat} {x : XS} {p : Int32} {u : RT} (hfl : g.1.stackTraces = false) (h : f_X8_whatFollowsFrom p x = some u) (hE : ∀ (E : String) (x1 : XS), u = .inl (E, x1) → E = "java/lang/IndexOutOfBoundsException") (hI : ∀ (v : Option Value) (x1 : XS), u = .inr (v, x1) → ∃ w : Int32, v = some (.int w)) : Mw g yL_whatFollowsFrom cL_whatFollowsFrom 4 (some .int) [(0, 9, 12, 24)] 10 3 18 LFO a x [.ref (a 0), .int p, .ref (a 48)] (wres code1 cvI x u) := by
  refine Mw_of (by decide +kernel) (Nat.le_of_ble_eq_true rfl) ?_
  intro k hk he hg ht
  subst hg
  refine xaload_n hk dL_whatFollowsFrom_0 rfl ?_
  refine xiconst (v := 0) hk dL_whatFollowsFrom_1 (by decide) ?_
  refine xaload_n hk dL_whatFollowsFrom_2 rfl ?_
  refine xiload_n hk dL_whatFollowsFrom_3 rfl ?_
  refine xcallVTC 0 sub_LFO pa0 px0 hk ht (c_X8_whatFollowsFrom hfl h) bX8_whatFollowsFrom kL_43 dL_whatFollowsFrom_4 rfl ⟨_, _, _, _, rfl, rfl⟩ rfl (by decide) ⟨Nat.le_of_ble_eq_true rfl, Nat.le_of_ble_eq_true rfl⟩ (Nat.le_of_ble_eq_true rfl) (fun E x1 hr => ?_) (fun v x1 hr => ?_)
  · subst hr
    obtain rfl := hE E x1 rfl
    refine ⟨[], ⟨0, 9, 12, 24⟩, [], "java/lang/IndexOutOfBoundsException", rfl, (fun _ h => absurd h List.not_mem_nil), by decide, by decide, linkIOB, castIOB, fun q9 => ?_⟩
    refine xastore_n hk dL_whatFollowsFrom_12 (by decide) ?_
    refine xiconst (v := 1) hk dL_whatFollowsFrom_13 (by decide) ?_
    refine xiret hk he dL_whatFollowsFrom_14 ⟨Nat.le_of_ble_eq_true rfl, Nat.le_of_ble_eq_true rfl⟩ ?_
    exact ⟨rfl, rfl⟩
  · subst hr
    obtain ⟨w, rfl⟩ := hI v x1 rfl
    refine xi2l hk dL_whatFollowsFrom_7 ?_
    refine xlast hk dL_whatFollowsFrom_8 rfl (inB_v (by decide)) ?_
    refine xgoto hk 15 dL_whatFollowsFrom_9 (by decide) ?_
    refine xiconst (v := 0) hk dL_whatFollowsFrom_15 (by decide) ?_
    refine xiret hk he dL_whatFollowsFrom_16 ⟨Nat.le_of_ble_eq_true rfl, Nat.le_of_ble_eq_true rfl⟩ ?_
    exact ⟨rfl, rfl⟩
set_option maxHeartbeats 4000000 in
set_option maxRecDepth 100000 in
theorem w_fewestStatementsBetween {g : Gx} {a : Nat → Nat} {x : XS} {p : Int32} {q : Int32} {u : RT} (hfl : g.1.stackTraces = false) (h : f_X8_fewestStatementsBetween p q x = some u) (hE : ∀ (E : String) (x1 : XS), u = .inl (E, x1) → E = "java/lang/IndexOutOfBoundsException" ∨ E = "java/lang/IllegalStateException") (hI : ∀ (v : Option Value) (x1 : XS), u = .inr (v, x1) → ∃ w : Int32, v = some (.int w)) : Mw g yL_fewestStatementsBetween cL_fewestStatementsBetween 5 (some .int) [(0, 10, 13, 24), (0, 10, 17, 13)] 10 3 18 LFO a x [.ref (a 0), .int p, .int q, .ref (a 48)] (wres code2 cvI x u) := by
  refine Mw_of (by decide +kernel) (Nat.le_of_ble_eq_true rfl) ?_
  intro k hk he hg ht
  subst hg
  refine xaload_n hk dL_fewestStatementsBetween_0 rfl ?_
  refine xiconst (v := 0) hk dL_fewestStatementsBetween_1 (by decide) ?_
  refine xaload_n hk dL_fewestStatementsBetween_2 rfl ?_
  refine xiload_n hk dL_fewestStatementsBetween_3 rfl ?_
  refine xiload_n hk dL_fewestStatementsBetween_4 rfl ?_
  refine xcallVTC 0 sub_LFO pa0 px0 hk ht (c_X8_fewestStatementsBetween hfl h) bX8_fewestStatementsBetween kL_46 dL_fewestStatementsBetween_5 rfl ⟨_, _, _, _, rfl, rfl⟩ rfl (by decide) ⟨Nat.le_of_ble_eq_true rfl, Nat.le_of_ble_eq_true rfl⟩ (Nat.le_of_ble_eq_true rfl) (fun E x1 hr => ?_) (fun v x1 hr => ?_)
  · subst hr
    rcases hE E x1 rfl with rfl | rfl
    · refine ⟨[], ⟨0, 10, 13, 24⟩, [⟨0, 10, 17, 13⟩], "java/lang/IndexOutOfBoundsException", rfl, (fun _ h => absurd h List.not_mem_nil), by decide, by decide, linkIOB, castIOB, fun q9 => ?_⟩
      refine xastore hk dL_fewestStatementsBetween_13 (by decide) ?_
      refine xiconst (v := 1) hk dL_fewestStatementsBetween_15 (by decide) ?_
      refine xiret hk he dL_fewestStatementsBetween_16 ⟨Nat.le_of_ble_eq_true rfl, Nat.le_of_ble_eq_true rfl⟩ ?_
      exact ⟨rfl, rfl⟩
    · refine ⟨[⟨0, 10, 13, 24⟩], ⟨0, 10, 17, 13⟩, [], "java/lang/IllegalStateException", rfl, (List.forall_mem_cons.mpr ⟨⟨by decide, linkIOB, rfl⟩, fun _ h => absurd h List.not_mem_nil⟩), by decide, by decide, linkISE, castISE, fun q9 => ?_⟩
      refine xastore hk dL_fewestStatementsBetween_17 (by decide) ?_
      refine xiconst (v := 2) hk dL_fewestStatementsBetween_19 (by decide) ?_
      refine xiret hk he dL_fewestStatementsBetween_20 ⟨Nat.le_of_ble_eq_true rfl, Nat.le_of_ble_eq_true rfl⟩ ?_
      exact ⟨rfl, rfl⟩
  · subst hr
    obtain ⟨w, rfl⟩ := hI v x1 rfl
    refine xi2l hk dL_fewestStatementsBetween_8 ?_
    refine xlast hk dL_fewestStatementsBetween_9 rfl (inB_v (by decide)) ?_
    refine xgoto hk 21 dL_fewestStatementsBetween_10 (by decide) ?_
    refine xiconst (v := 0) hk dL_fewestStatementsBetween_21 (by decide) ?_
    refine xiret hk he dL_fewestStatementsBetween_22 ⟨Nat.le_of_ble_eq_true rfl, Nat.le_of_ble_eq_true rfl⟩ ?_
    exact ⟨rfl, rfl⟩
set_option maxHeartbeats 4000000 in
set_option maxRecDepth 100000 in
theorem w_partOf {g : Gx} {a : Nat → Nat} {x : XS} {p : Int32} {u : RT} (hfl : g.1.stackTraces = false) (h : f_X8_partOf p x = some u) (hE : ∀ (E : String) (x1 : XS), u = .inl (E, x1) → E = "java/lang/IndexOutOfBoundsException") (hI : ∀ (v : Option Value) (x1 : XS), u = .inr (v, x1) → ∃ w : Int32, v = some (.int w)) : Mw g yL_partOf cL_partOf 4 (some .int) [(0, 9, 12, 24)] 10 3 18 LFO a x [.ref (a 0), .int p, .ref (a 48)] (wres code1 cvI x u) := by
  refine Mw_of (by decide +kernel) (Nat.le_of_ble_eq_true rfl) ?_
  intro k hk he hg ht
  subst hg
  refine xaload_n hk dL_partOf_0 rfl ?_
  refine xiconst (v := 0) hk dL_partOf_1 (by decide) ?_
  refine xaload_n hk dL_partOf_2 rfl ?_
  refine xiload_n hk dL_partOf_3 rfl ?_
  refine xcallVTC 0 sub_LFO pa0 px0 hk ht (c_X8_partOf hfl h) bX8_partOf kL_50 dL_partOf_4 rfl ⟨_, _, _, _, rfl, rfl⟩ rfl (by decide) ⟨Nat.le_of_ble_eq_true rfl, Nat.le_of_ble_eq_true rfl⟩ (Nat.le_of_ble_eq_true rfl) (fun E x1 hr => ?_) (fun v x1 hr => ?_)
  · subst hr
    obtain rfl := hE E x1 rfl
    refine ⟨[], ⟨0, 9, 12, 24⟩, [], "java/lang/IndexOutOfBoundsException", rfl, (fun _ h => absurd h List.not_mem_nil), by decide, by decide, linkIOB, castIOB, fun q9 => ?_⟩
    refine xastore_n hk dL_partOf_12 (by decide) ?_
    refine xiconst (v := 1) hk dL_partOf_13 (by decide) ?_
    refine xiret hk he dL_partOf_14 ⟨Nat.le_of_ble_eq_true rfl, Nat.le_of_ble_eq_true rfl⟩ ?_
    exact ⟨rfl, rfl⟩
  · subst hr
    obtain ⟨w, rfl⟩ := hI v x1 rfl
    refine xi2l hk dL_partOf_7 ?_
    refine xlast hk dL_partOf_8 rfl (inB_v (by decide)) ?_
    refine xgoto hk 15 dL_partOf_9 (by decide) ?_
    refine xiconst (v := 0) hk dL_partOf_15 (by decide) ?_
    refine xiret hk he dL_partOf_16 ⟨Nat.le_of_ble_eq_true rfl, Nat.le_of_ble_eq_true rfl⟩ ?_
    exact ⟨rfl, rfl⟩
set_option maxHeartbeats 4000000 in
set_option maxRecDepth 100000 in
theorem w_partSize {g : Gx} {a : Nat → Nat} {x : XS} {p : Int32} {u : RT} (hfl : g.1.stackTraces = false) (h : f_X8_partSize p x = some u) (hE : ∀ (E : String) (x1 : XS), u = .inl (E, x1) → E = "java/lang/IndexOutOfBoundsException") (hI : ∀ (v : Option Value) (x1 : XS), u = .inr (v, x1) → ∃ w : Int32, v = some (.int w)) : Mw g yL_partSize cL_partSize 4 (some .int) [(0, 9, 12, 24)] 10 3 18 LFO a x [.ref (a 0), .int p, .ref (a 48)] (wres code1 cvI x u) := by
  refine Mw_of (by decide +kernel) (Nat.le_of_ble_eq_true rfl) ?_
  intro k hk he hg ht
  subst hg
  refine xaload_n hk dL_partSize_0 rfl ?_
  refine xiconst (v := 0) hk dL_partSize_1 (by decide) ?_
  refine xaload_n hk dL_partSize_2 rfl ?_
  refine xiload_n hk dL_partSize_3 rfl ?_
  refine xcallVTC 0 sub_LFO pa0 px0 hk ht (c_X8_partSize hfl h) bX8_partSize kL_53 dL_partSize_4 rfl ⟨_, _, _, _, rfl, rfl⟩ rfl (by decide) ⟨Nat.le_of_ble_eq_true rfl, Nat.le_of_ble_eq_true rfl⟩ (Nat.le_of_ble_eq_true rfl) (fun E x1 hr => ?_) (fun v x1 hr => ?_)
  · subst hr
    obtain rfl := hE E x1 rfl
    refine ⟨[], ⟨0, 9, 12, 24⟩, [], "java/lang/IndexOutOfBoundsException", rfl, (fun _ h => absurd h List.not_mem_nil), by decide, by decide, linkIOB, castIOB, fun q9 => ?_⟩
    refine xastore_n hk dL_partSize_12 (by decide) ?_
    refine xiconst (v := 1) hk dL_partSize_13 (by decide) ?_
    refine xiret hk he dL_partSize_14 ⟨Nat.le_of_ble_eq_true rfl, Nat.le_of_ble_eq_true rfl⟩ ?_
    exact ⟨rfl, rfl⟩
  · subst hr
    obtain ⟨w, rfl⟩ := hI v x1 rfl
    refine xi2l hk dL_partSize_7 ?_
    refine xlast hk dL_partSize_8 rfl (inB_v (by decide)) ?_
    refine xgoto hk 15 dL_partSize_9 (by decide) ?_
    refine xiconst (v := 0) hk dL_partSize_15 (by decide) ?_
    refine xiret hk he dL_partSize_16 ⟨Nat.le_of_ble_eq_true rfl, Nat.le_of_ble_eq_true rfl⟩ ?_
    exact ⟨rfl, rfl⟩
set_option maxHeartbeats 4000000 in
set_option maxRecDepth 100000 in
theorem w_peacesWith {g : Gx} {a : Nat → Nat} {x : XS} {p : Int32} {u : RT} (hfl : g.1.stackTraces = false) (h : f_X8_peacesWith p x = some u) (hE : ∀ (E : String) (x1 : XS), u = .inl (E, x1) → E = "java/lang/IndexOutOfBoundsException") (hI : ∀ (v : Option Value) (x1 : XS), u = .inr (v, x1) → ∃ w : Int32, v = some (.int w)) : Mw g yL_peacesWith cL_peacesWith 4 (some .int) [(0, 9, 12, 24)] 10 3 18 LFO a x [.ref (a 0), .int p, .ref (a 48)] (wres code1 cvI x u) := by
  refine Mw_of (by decide +kernel) (Nat.le_of_ble_eq_true rfl) ?_
  intro k hk he hg ht
  subst hg
  refine xaload_n hk dL_peacesWith_0 rfl ?_
  refine xiconst (v := 0) hk dL_peacesWith_1 (by decide) ?_
  refine xaload_n hk dL_peacesWith_2 rfl ?_
  refine xiload_n hk dL_peacesWith_3 rfl ?_
  refine xcallVTC 0 sub_LFO pa0 px0 hk ht (c_X8_peacesWith hfl h) bX8_peacesWith kL_56 dL_peacesWith_4 rfl ⟨_, _, _, _, rfl, rfl⟩ rfl (by decide) ⟨Nat.le_of_ble_eq_true rfl, Nat.le_of_ble_eq_true rfl⟩ (Nat.le_of_ble_eq_true rfl) (fun E x1 hr => ?_) (fun v x1 hr => ?_)
  · subst hr
    obtain rfl := hE E x1 rfl
    refine ⟨[], ⟨0, 9, 12, 24⟩, [], "java/lang/IndexOutOfBoundsException", rfl, (fun _ h => absurd h List.not_mem_nil), by decide, by decide, linkIOB, castIOB, fun q9 => ?_⟩
    refine xastore_n hk dL_peacesWith_12 (by decide) ?_
    refine xiconst (v := 1) hk dL_peacesWith_13 (by decide) ?_
    refine xiret hk he dL_peacesWith_14 ⟨Nat.le_of_ble_eq_true rfl, Nat.le_of_ble_eq_true rfl⟩ ?_
    exact ⟨rfl, rfl⟩
  · subst hr
    obtain ⟨w, rfl⟩ := hI v x1 rfl
    refine xi2l hk dL_peacesWith_7 ?_
    refine xlast hk dL_peacesWith_8 rfl (inB_v (by decide)) ?_
    refine xgoto hk 15 dL_peacesWith_9 (by decide) ?_
    refine xiconst (v := 0) hk dL_peacesWith_15 (by decide) ?_
    refine xiret hk he dL_peacesWith_16 ⟨Nat.le_of_ble_eq_true rfl, Nat.le_of_ble_eq_true rfl⟩ ?_
    exact ⟨rfl, rfl⟩
set_option maxHeartbeats 4000000 in
set_option maxRecDepth 100000 in
theorem w_isPossible {g : Gx} {a : Nat → Nat} {x : XS} {p : Int32} {u : RT} (hfl : g.1.stackTraces = false) (h : f_X8_isPossible p x = some u) (hE : ∀ (E : String) (x1 : XS), u = .inl (E, x1) → E = "java/lang/IndexOutOfBoundsException") (hI : ∀ (v : Option Value) (x1 : XS), u = .inr (v, x1) → ∃ w : Int32, v = some (.int w)) : Mw g yL_isPossible cL_isPossible 4 (some .int) [(0, 16, 19, 24)] 10 3 18 LFO a x [.ref (a 0), .int p, .ref (a 48)] (wres code1 cvB x u) := by
  refine Mw_of (by decide +kernel) (Nat.le_of_ble_eq_true rfl) ?_
  intro k hk he hg ht
  subst hg
  refine xaload_n hk dL_isPossible_0 rfl ?_
  refine xiconst (v := 0) hk dL_isPossible_1 (by decide) ?_
  refine xaload_n hk dL_isPossible_2 rfl ?_
  refine xiload_n hk dL_isPossible_3 rfl ?_
  refine xcallVTC 0 sub_LFO pa0 px0 hk ht (c_X8_isPossible hfl h) bX8_isPossible kL_59 dL_isPossible_4 rfl ⟨_, _, _, _, rfl, rfl⟩ rfl (by decide) ⟨Nat.le_of_ble_eq_true rfl, Nat.le_of_ble_eq_true rfl⟩ (Nat.le_of_ble_eq_true rfl) (fun E x1 hr => ?_) (fun v x1 hr => ?_)
  · subst hr
    obtain rfl := hE E x1 rfl
    refine ⟨[], ⟨0, 16, 19, 24⟩, [], "java/lang/IndexOutOfBoundsException", rfl, (fun _ h => absurd h List.not_mem_nil), by decide, by decide, linkIOB, castIOB, fun q9 => ?_⟩
    refine xastore_n hk dL_isPossible_19 (by decide) ?_
    refine xiconst (v := 1) hk dL_isPossible_20 (by decide) ?_
    refine xiret hk he dL_isPossible_21 ⟨Nat.le_of_ble_eq_true rfl, Nat.le_of_ble_eq_true rfl⟩ ?_
    exact ⟨rfl, rfl⟩
  · subst hr
    obtain ⟨w, rfl⟩ := hI v x1 rfl
    refine xif_eq hk 14 dL_isPossible_7 (by decide) (fun hz => ?_) (fun hz => ?_)
    · refine xlconst (v := 0) hk dL_isPossible_14 (by decide) ?_
      refine xlast hk dL_isPossible_15 rfl (inB_v (by decide)) ?_
      refine xgoto hk 22 dL_isPossible_16 (by decide) ?_
      refine xiconst (v := 0) hk dL_isPossible_22 (by decide) ?_
      refine xiret hk he dL_isPossible_23 ⟨Nat.le_of_ble_eq_true rfl, Nat.le_of_ble_eq_true rfl⟩ ?_
      exact ⟨rfl, by rw [cvB, if_pos hz]; rfl⟩
    · refine xlconst (v := 1) hk dL_isPossible_10 (by decide) ?_
      refine xgoto hk 15 dL_isPossible_11 (by decide) ?_
      refine xlast hk dL_isPossible_15 rfl (inB_v (by decide)) ?_
      refine xgoto hk 22 dL_isPossible_16 (by decide) ?_
      refine xiconst (v := 0) hk dL_isPossible_22 (by decide) ?_
      refine xiret hk he dL_isPossible_23 ⟨Nat.le_of_ble_eq_true rfl, Nat.le_of_ble_eq_true rfl⟩ ?_
      exact ⟨rfl, by rw [cvB, if_neg hz]; rfl⟩
set_option maxHeartbeats 4000000 in
set_option maxRecDepth 100000 in
theorem w_isSettled {g : Gx} {a : Nat → Nat} {x : XS} {p : Int32} {u : RT} (hfl : g.1.stackTraces = false) (h : f_X8_isSettled p x = some u) (hE : ∀ (E : String) (x1 : XS), u = .inl (E, x1) → E = "java/lang/IndexOutOfBoundsException" ∨ E = "java/lang/IllegalStateException") (hI : ∀ (v : Option Value) (x1 : XS), u = .inr (v, x1) → ∃ w : Int32, v = some (.int w)) : Mw g yL_isSettled cL_isSettled 4 (some .int) [(0, 16, 19, 24), (0, 16, 22, 13)] 10 3 18 LFO a x [.ref (a 0), .int p, .ref (a 48)] (wres code2 cvB x u) := by
  refine Mw_of (by decide +kernel) (Nat.le_of_ble_eq_true rfl) ?_
  intro k hk he hg ht
  subst hg
  refine xaload_n hk dL_isSettled_0 rfl ?_
  refine xiconst (v := 0) hk dL_isSettled_1 (by decide) ?_
  refine xaload_n hk dL_isSettled_2 rfl ?_
  refine xiload_n hk dL_isSettled_3 rfl ?_
  refine xcallVTC 0 sub_LFO pa0 px0 hk ht (c_X8_isSettled hfl h) bX8_isSettled kL_62 dL_isSettled_4 rfl ⟨_, _, _, _, rfl, rfl⟩ rfl (by decide) ⟨Nat.le_of_ble_eq_true rfl, Nat.le_of_ble_eq_true rfl⟩ (Nat.le_of_ble_eq_true rfl) (fun E x1 hr => ?_) (fun v x1 hr => ?_)
  · subst hr
    rcases hE E x1 rfl with rfl | rfl
    · refine ⟨[], ⟨0, 16, 19, 24⟩, [⟨0, 16, 22, 13⟩], "java/lang/IndexOutOfBoundsException", rfl, (fun _ h => absurd h List.not_mem_nil), by decide, by decide, linkIOB, castIOB, fun q9 => ?_⟩
      refine xastore_n hk dL_isSettled_19 (by decide) ?_
      refine xiconst (v := 1) hk dL_isSettled_20 (by decide) ?_
      refine xiret hk he dL_isSettled_21 ⟨Nat.le_of_ble_eq_true rfl, Nat.le_of_ble_eq_true rfl⟩ ?_
      exact ⟨rfl, rfl⟩
    · refine ⟨[⟨0, 16, 19, 24⟩], ⟨0, 16, 22, 13⟩, [], "java/lang/IllegalStateException", rfl, (List.forall_mem_cons.mpr ⟨⟨by decide, linkIOB, rfl⟩, fun _ h => absurd h List.not_mem_nil⟩), by decide, by decide, linkISE, castISE, fun q9 => ?_⟩
      refine xastore_n hk dL_isSettled_22 (by decide) ?_
      refine xiconst (v := 2) hk dL_isSettled_23 (by decide) ?_
      refine xiret hk he dL_isSettled_24 ⟨Nat.le_of_ble_eq_true rfl, Nat.le_of_ble_eq_true rfl⟩ ?_
      exact ⟨rfl, rfl⟩
  · subst hr
    obtain ⟨w, rfl⟩ := hI v x1 rfl
    refine xif_eq hk 14 dL_isSettled_7 (by decide) (fun hz => ?_) (fun hz => ?_)
    · refine xlconst (v := 0) hk dL_isSettled_14 (by decide) ?_
      refine xlast hk dL_isSettled_15 rfl (inB_v (by decide)) ?_
      refine xgoto hk 25 dL_isSettled_16 (by decide) ?_
      refine xiconst (v := 0) hk dL_isSettled_25 (by decide) ?_
      refine xiret hk he dL_isSettled_26 ⟨Nat.le_of_ble_eq_true rfl, Nat.le_of_ble_eq_true rfl⟩ ?_
      exact ⟨rfl, by rw [cvB, if_pos hz]; rfl⟩
    · refine xlconst (v := 1) hk dL_isSettled_10 (by decide) ?_
      refine xgoto hk 15 dL_isSettled_11 (by decide) ?_
      refine xlast hk dL_isSettled_15 rfl (inB_v (by decide)) ?_
      refine xgoto hk 25 dL_isSettled_16 (by decide) ?_
      refine xiconst (v := 0) hk dL_isSettled_25 (by decide) ?_
      refine xiret hk he dL_isSettled_26 ⟨Nat.le_of_ble_eq_true rfl, Nat.le_of_ble_eq_true rfl⟩ ?_
      exact ⟨rfl, by rw [cvB, if_neg hz]; rfl⟩
set_option maxHeartbeats 4000000 in
set_option maxRecDepth 100000 in
theorem w_ridesInPeace {g : Gx} {a : Nat → Nat} {x : XS} {p : Int32} {u : RT} (hfl : g.1.stackTraces = false) (h : f_X8_ridesInPeace p x = some u) (hE : ∀ (E : String) (x1 : XS), u = .inl (E, x1) → E = "java/lang/IndexOutOfBoundsException" ∨ E = "java/lang/IllegalStateException") (hI : ∀ (v : Option Value) (x1 : XS), u = .inr (v, x1) → ∃ w : Int32, v = some (.int w)) : Mw g yL_ridesInPeace cL_ridesInPeace 4 (some .int) [(0, 16, 19, 24), (0, 16, 22, 13)] 10 3 18 LFO a x [.ref (a 0), .int p, .ref (a 48)] (wres code2 cvB x u) := by
  refine Mw_of (by decide +kernel) (Nat.le_of_ble_eq_true rfl) ?_
  intro k hk he hg ht
  subst hg
  refine xaload_n hk dL_ridesInPeace_0 rfl ?_
  refine xiconst (v := 0) hk dL_ridesInPeace_1 (by decide) ?_
  refine xaload_n hk dL_ridesInPeace_2 rfl ?_
  refine xiload_n hk dL_ridesInPeace_3 rfl ?_
  refine xcallVTC 0 sub_LFO pa0 px0 hk ht (c_X8_ridesInPeace hfl h) bX8_ridesInPeace kL_65 dL_ridesInPeace_4 rfl ⟨_, _, _, _, rfl, rfl⟩ rfl (by decide) ⟨Nat.le_of_ble_eq_true rfl, Nat.le_of_ble_eq_true rfl⟩ (Nat.le_of_ble_eq_true rfl) (fun E x1 hr => ?_) (fun v x1 hr => ?_)
  · subst hr
    rcases hE E x1 rfl with rfl | rfl
    · refine ⟨[], ⟨0, 16, 19, 24⟩, [⟨0, 16, 22, 13⟩], "java/lang/IndexOutOfBoundsException", rfl, (fun _ h => absurd h List.not_mem_nil), by decide, by decide, linkIOB, castIOB, fun q9 => ?_⟩
      refine xastore_n hk dL_ridesInPeace_19 (by decide) ?_
      refine xiconst (v := 1) hk dL_ridesInPeace_20 (by decide) ?_
      refine xiret hk he dL_ridesInPeace_21 ⟨Nat.le_of_ble_eq_true rfl, Nat.le_of_ble_eq_true rfl⟩ ?_
      exact ⟨rfl, rfl⟩
    · refine ⟨[⟨0, 16, 19, 24⟩], ⟨0, 16, 22, 13⟩, [], "java/lang/IllegalStateException", rfl, (List.forall_mem_cons.mpr ⟨⟨by decide, linkIOB, rfl⟩, fun _ h => absurd h List.not_mem_nil⟩), by decide, by decide, linkISE, castISE, fun q9 => ?_⟩
      refine xastore_n hk dL_ridesInPeace_22 (by decide) ?_
      refine xiconst (v := 2) hk dL_ridesInPeace_23 (by decide) ?_
      refine xiret hk he dL_ridesInPeace_24 ⟨Nat.le_of_ble_eq_true rfl, Nat.le_of_ble_eq_true rfl⟩ ?_
      exact ⟨rfl, rfl⟩
  · subst hr
    obtain ⟨w, rfl⟩ := hI v x1 rfl
    refine xif_eq hk 14 dL_ridesInPeace_7 (by decide) (fun hz => ?_) (fun hz => ?_)
    · refine xlconst (v := 0) hk dL_ridesInPeace_14 (by decide) ?_
      refine xlast hk dL_ridesInPeace_15 rfl (inB_v (by decide)) ?_
      refine xgoto hk 25 dL_ridesInPeace_16 (by decide) ?_
      refine xiconst (v := 0) hk dL_ridesInPeace_25 (by decide) ?_
      refine xiret hk he dL_ridesInPeace_26 ⟨Nat.le_of_ble_eq_true rfl, Nat.le_of_ble_eq_true rfl⟩ ?_
      exact ⟨rfl, by rw [cvB, if_pos hz]; rfl⟩
    · refine xlconst (v := 1) hk dL_ridesInPeace_10 (by decide) ?_
      refine xgoto hk 15 dL_ridesInPeace_11 (by decide) ?_
      refine xlast hk dL_ridesInPeace_15 rfl (inB_v (by decide)) ?_
      refine xgoto hk 25 dL_ridesInPeace_16 (by decide) ?_
      refine xiconst (v := 0) hk dL_ridesInPeace_25 (by decide) ?_
      refine xiret hk he dL_ridesInPeace_26 ⟨Nat.le_of_ble_eq_true rfl, Nat.le_of_ble_eq_true rfl⟩ ?_
      exact ⟨rfl, by rw [cvB, if_neg hz]; rfl⟩
set_option maxHeartbeats 4000000 in
set_option maxRecDepth 100000 in
theorem w_ridersInPeace {g : Gx} {a : Nat → Nat} {x : XS}  {u : RT} (hfl : g.1.stackTraces = false) (h : f_X8_ridersInPeace  x = some u) (hE : ∀ (E : String) (x1 : XS), u = .inl (E, x1) → E = "java/lang/IllegalStateException") (hI : ∀ (v : Option Value) (x1 : XS), u = .inr (v, x1) → ∃ w : Int32, v = some (.int w)) : Mw g yL_ridersInPeace cL_ridersInPeace 3 (some .int) [(0, 8, 11, 13)] 10 3 18 LFO a x [.ref (a 0), .ref (a 48)] (wres code1 cvI x u) := by
  refine Mw_of (by decide +kernel) (Nat.le_of_ble_eq_true rfl) ?_
  intro k hk he hg ht
  subst hg
  refine xaload_n hk dL_ridersInPeace_0 rfl ?_
  refine xiconst (v := 0) hk dL_ridersInPeace_1 (by decide) ?_
  refine xaload_n hk dL_ridersInPeace_2 rfl ?_
  refine xcallVTC 0 sub_LFO pa0 px0 hk ht (c_X8_ridersInPeace hfl h) bX8_ridersInPeace kL_68 dL_ridersInPeace_3 rfl ⟨_, _, _, _, rfl, rfl⟩ rfl (by decide) ⟨Nat.le_of_ble_eq_true rfl, Nat.le_of_ble_eq_true rfl⟩ (Nat.le_of_ble_eq_true rfl) (fun E x1 hr => ?_) (fun v x1 hr => ?_)
  · subst hr
    obtain rfl := hE E x1 rfl
    refine ⟨[], ⟨0, 8, 11, 13⟩, [], "java/lang/IllegalStateException", rfl, (fun _ h => absurd h List.not_mem_nil), by decide, by decide, linkISE, castISE, fun q9 => ?_⟩
    refine xastore_n hk dL_ridersInPeace_11 (by decide) ?_
    refine xiconst (v := 1) hk dL_ridersInPeace_12 (by decide) ?_
    refine xiret hk he dL_ridersInPeace_13 ⟨Nat.le_of_ble_eq_true rfl, Nat.le_of_ble_eq_true rfl⟩ ?_
    exact ⟨rfl, rfl⟩
  · subst hr
    obtain ⟨w, rfl⟩ := hI v x1 rfl
    refine xi2l hk dL_ridersInPeace_6 ?_
    refine xlast hk dL_ridersInPeace_7 rfl (inB_v (by decide)) ?_
    refine xgoto hk 14 dL_ridersInPeace_8 (by decide) ?_
    refine xiconst (v := 0) hk dL_ridersInPeace_14 (by decide) ?_
    refine xiret hk he dL_ridersInPeace_15 ⟨Nat.le_of_ble_eq_true rfl, Nat.le_of_ble_eq_true rfl⟩ ?_
    exact ⟨rfl, rfl⟩
set_option maxHeartbeats 4000000 in
set_option maxRecDepth 100000 in
theorem w_blamedFamily {g : Gx} {a : Nat → Nat} {x : XS}  {u : RT} (hfl : g.1.stackTraces = false) (h : f_X8_blamedFamily  x = some u) (hE : ∀ (E : String) (x1 : XS), u = .inl (E, x1) → E = "java/lang/IllegalStateException") (hI : ∀ (v : Option Value) (x1 : XS), u = .inr (v, x1) → ∃ w : Int32, v = some (.int w)) : Mw g yL_blamedFamily cL_blamedFamily 3 (some .int) [(0, 8, 11, 13)] 10 3 18 LFO a x [.ref (a 0), .ref (a 48)] (wres code1 cvI x u) := by
  refine Mw_of (by decide +kernel) (Nat.le_of_ble_eq_true rfl) ?_
  intro k hk he hg ht
  subst hg
  refine xaload_n hk dL_blamedFamily_0 rfl ?_
  refine xiconst (v := 0) hk dL_blamedFamily_1 (by decide) ?_
  refine xaload_n hk dL_blamedFamily_2 rfl ?_
  refine xcallVTC 0 sub_LFO pa0 px0 hk ht (c_X8_blamedFamily hfl h) bX8_blamedFamily kL_72 dL_blamedFamily_3 rfl ⟨_, _, _, _, rfl, rfl⟩ rfl (by decide) ⟨Nat.le_of_ble_eq_true rfl, Nat.le_of_ble_eq_true rfl⟩ (Nat.le_of_ble_eq_true rfl) (fun E x1 hr => ?_) (fun v x1 hr => ?_)
  · subst hr
    obtain rfl := hE E x1 rfl
    refine ⟨[], ⟨0, 8, 11, 13⟩, [], "java/lang/IllegalStateException", rfl, (fun _ h => absurd h List.not_mem_nil), by decide, by decide, linkISE, castISE, fun q9 => ?_⟩
    refine xastore_n hk dL_blamedFamily_11 (by decide) ?_
    refine xiconst (v := 1) hk dL_blamedFamily_12 (by decide) ?_
    refine xiret hk he dL_blamedFamily_13 ⟨Nat.le_of_ble_eq_true rfl, Nat.le_of_ble_eq_true rfl⟩ ?_
    exact ⟨rfl, rfl⟩
  · subst hr
    obtain ⟨w, rfl⟩ := hI v x1 rfl
    refine xi2l hk dL_blamedFamily_6 ?_
    refine xlast hk dL_blamedFamily_7 rfl (inB_v (by decide)) ?_
    refine xgoto hk 14 dL_blamedFamily_8 (by decide) ?_
    refine xiconst (v := 0) hk dL_blamedFamily_14 (by decide) ?_
    refine xiret hk he dL_blamedFamily_15 ⟨Nat.le_of_ble_eq_true rfl, Nat.le_of_ble_eq_true rfl⟩ ?_
    exact ⟨rfl, rfl⟩
set_option maxHeartbeats 4000000 in
set_option maxRecDepth 100000 in
theorem w_breakStatement {g : Gx} {a : Nat → Nat} {x : XS} {p : Int32} {u : RT} (hfl : g.1.stackTraces = false) (h : f_X8_breakStatement p x = some u) (hE : ∀ (E : String) (x1 : XS), u = .inl (E, x1) → E = "java/lang/IndexOutOfBoundsException" ∨ E = "java/lang/IllegalStateException") (hI : ∀ (v : Option Value) (x1 : XS), u = .inr (v, x1) → ∃ w : Int32, v = some (.int w)) : Mw g yL_breakStatement cL_breakStatement 4 (some .int) [(0, 9, 12, 24), (0, 9, 15, 13)] 10 3 18 LFO a x [.ref (a 0), .int p, .ref (a 48)] (wres code2 cvI x u) := by
  refine Mw_of (by decide +kernel) (Nat.le_of_ble_eq_true rfl) ?_
  intro k hk he hg ht
  subst hg
  refine xaload_n hk dL_breakStatement_0 rfl ?_
  refine xiconst (v := 0) hk dL_breakStatement_1 (by decide) ?_
  refine xaload_n hk dL_breakStatement_2 rfl ?_
  refine xiload_n hk dL_breakStatement_3 rfl ?_
  refine xcallVTC 0 sub_LFO pa0 px0 hk ht (c_X8_breakStatement hfl h) bX8_breakStatement kL_75 dL_breakStatement_4 rfl ⟨_, _, _, _, rfl, rfl⟩ rfl (by decide) ⟨Nat.le_of_ble_eq_true rfl, Nat.le_of_ble_eq_true rfl⟩ (Nat.le_of_ble_eq_true rfl) (fun E x1 hr => ?_) (fun v x1 hr => ?_)
  · subst hr
    rcases hE E x1 rfl with rfl | rfl
    · refine ⟨[], ⟨0, 9, 12, 24⟩, [⟨0, 9, 15, 13⟩], "java/lang/IndexOutOfBoundsException", rfl, (fun _ h => absurd h List.not_mem_nil), by decide, by decide, linkIOB, castIOB, fun q9 => ?_⟩
      refine xastore_n hk dL_breakStatement_12 (by decide) ?_
      refine xiconst (v := 1) hk dL_breakStatement_13 (by decide) ?_
      refine xiret hk he dL_breakStatement_14 ⟨Nat.le_of_ble_eq_true rfl, Nat.le_of_ble_eq_true rfl⟩ ?_
      exact ⟨rfl, rfl⟩
    · refine ⟨[⟨0, 9, 12, 24⟩], ⟨0, 9, 15, 13⟩, [], "java/lang/IllegalStateException", rfl, (List.forall_mem_cons.mpr ⟨⟨by decide, linkIOB, rfl⟩, fun _ h => absurd h List.not_mem_nil⟩), by decide, by decide, linkISE, castISE, fun q9 => ?_⟩
      refine xastore_n hk dL_breakStatement_15 (by decide) ?_
      refine xiconst (v := 2) hk dL_breakStatement_16 (by decide) ?_
      refine xiret hk he dL_breakStatement_17 ⟨Nat.le_of_ble_eq_true rfl, Nat.le_of_ble_eq_true rfl⟩ ?_
      exact ⟨rfl, rfl⟩
  · subst hr
    obtain ⟨w, rfl⟩ := hI v x1 rfl
    refine xi2l hk dL_breakStatement_7 ?_
    refine xlast hk dL_breakStatement_8 rfl (inB_v (by decide)) ?_
    refine xgoto hk 18 dL_breakStatement_9 (by decide) ?_
    refine xiconst (v := 0) hk dL_breakStatement_18 (by decide) ?_
    refine xiret hk he dL_breakStatement_19 ⟨Nat.le_of_ble_eq_true rfl, Nat.le_of_ble_eq_true rfl⟩ ?_
    exact ⟨rfl, rfl⟩
set_option maxHeartbeats 4000000 in
set_option maxRecDepth 100000 in
theorem w_renewStatement {g : Gx} {a : Nat → Nat} {x : XS} {p : Int32} {u : RT} (hfl : g.1.stackTraces = false) (h : f_X8_renewStatement p x = some u) (hE : ∀ (E : String) (x1 : XS), u = .inl (E, x1) → E = "java/lang/IndexOutOfBoundsException" ∨ E = "java/lang/IllegalStateException") (hI : ∀ (v : Option Value) (x1 : XS), u = .inr (v, x1) → ∃ w : Int32, v = some (.int w)) : Mw g yL_renewStatement cL_renewStatement 4 (some .int) [(0, 9, 12, 24), (0, 9, 15, 13)] 10 3 18 LFO a x [.ref (a 0), .int p, .ref (a 48)] (wres code2 cvI x u) := by
  refine Mw_of (by decide +kernel) (Nat.le_of_ble_eq_true rfl) ?_
  intro k hk he hg ht
  subst hg
  refine xaload_n hk dL_renewStatement_0 rfl ?_
  refine xiconst (v := 0) hk dL_renewStatement_1 (by decide) ?_
  refine xaload_n hk dL_renewStatement_2 rfl ?_
  refine xiload_n hk dL_renewStatement_3 rfl ?_
  refine xcallVTC 0 sub_LFO pa0 px0 hk ht (c_X8_renewStatement hfl h) bX8_renewStatement kL_78 dL_renewStatement_4 rfl ⟨_, _, _, _, rfl, rfl⟩ rfl (by decide) ⟨Nat.le_of_ble_eq_true rfl, Nat.le_of_ble_eq_true rfl⟩ (Nat.le_of_ble_eq_true rfl) (fun E x1 hr => ?_) (fun v x1 hr => ?_)
  · subst hr
    rcases hE E x1 rfl with rfl | rfl
    · refine ⟨[], ⟨0, 9, 12, 24⟩, [⟨0, 9, 15, 13⟩], "java/lang/IndexOutOfBoundsException", rfl, (fun _ h => absurd h List.not_mem_nil), by decide, by decide, linkIOB, castIOB, fun q9 => ?_⟩
      refine xastore_n hk dL_renewStatement_12 (by decide) ?_
      refine xiconst (v := 1) hk dL_renewStatement_13 (by decide) ?_
      refine xiret hk he dL_renewStatement_14 ⟨Nat.le_of_ble_eq_true rfl, Nat.le_of_ble_eq_true rfl⟩ ?_
      exact ⟨rfl, rfl⟩
    · refine ⟨[⟨0, 9, 12, 24⟩], ⟨0, 9, 15, 13⟩, [], "java/lang/IllegalStateException", rfl, (List.forall_mem_cons.mpr ⟨⟨by decide, linkIOB, rfl⟩, fun _ h => absurd h List.not_mem_nil⟩), by decide, by decide, linkISE, castISE, fun q9 => ?_⟩
      refine xastore_n hk dL_renewStatement_15 (by decide) ?_
      refine xiconst (v := 2) hk dL_renewStatement_16 (by decide) ?_
      refine xiret hk he dL_renewStatement_17 ⟨Nat.le_of_ble_eq_true rfl, Nat.le_of_ble_eq_true rfl⟩ ?_
      exact ⟨rfl, rfl⟩
  · subst hr
    obtain ⟨w, rfl⟩ := hI v x1 rfl
    refine xi2l hk dL_renewStatement_7 ?_
    refine xlast hk dL_renewStatement_8 rfl (inB_v (by decide)) ?_
    refine xgoto hk 18 dL_renewStatement_9 (by decide) ?_
    refine xiconst (v := 0) hk dL_renewStatement_18 (by decide) ?_
    refine xiret hk he dL_renewStatement_19 ⟨Nat.le_of_ble_eq_true rfl, Nat.le_of_ble_eq_true rfl⟩ ?_
    exact ⟨rfl, rfl⟩
set_option maxHeartbeats 4000000 in
set_option maxRecDepth 100000 in
theorem w_passDays {g : Gx} {a : Nat → Nat} {x : XS} {p : Int32} {u : RT} (hfl : g.1.stackTraces = false) (h : f_X8_passDays p x = some u) (hE : ∀ (E : String) (x1 : XS), u = .inl (E, x1) → E = "java/lang/IllegalArgumentException") (hI : ∀ (v : Option Value) (x1 : XS), u = .inr (v, x1) → ∃ w : Int32, v = some (.int w)) : Mw g yL_passDays cL_passDays 4 (some .int) [(0, 9, 12, 19)] 10 3 18 LFO a x [.ref (a 0), .int p, .ref (a 48)] (wres code1 cvI x u) := by
  refine Mw_of (by decide +kernel) (Nat.le_of_ble_eq_true rfl) ?_
  intro k hk he hg ht
  subst hg
  refine xaload_n hk dL_passDays_0 rfl ?_
  refine xiconst (v := 0) hk dL_passDays_1 (by decide) ?_
  refine xaload_n hk dL_passDays_2 rfl ?_
  refine xiload_n hk dL_passDays_3 rfl ?_
  refine xcallVTC 0 sub_LFO pa0 px0 hk ht (c_X8_passDays hfl h) bX8_passDays kL_81 dL_passDays_4 rfl ⟨_, _, _, _, rfl, rfl⟩ rfl (by decide) ⟨Nat.le_of_ble_eq_true rfl, Nat.le_of_ble_eq_true rfl⟩ (Nat.le_of_ble_eq_true rfl) (fun E x1 hr => ?_) (fun v x1 hr => ?_)
  · subst hr
    obtain rfl := hE E x1 rfl
    refine ⟨[], ⟨0, 9, 12, 19⟩, [], "java/lang/IllegalArgumentException", rfl, (fun _ h => absurd h List.not_mem_nil), by decide, by decide, linkIAE, castIAE, fun q9 => ?_⟩
    refine xastore_n hk dL_passDays_12 (by decide) ?_
    refine xiconst (v := 1) hk dL_passDays_13 (by decide) ?_
    refine xiret hk he dL_passDays_14 ⟨Nat.le_of_ble_eq_true rfl, Nat.le_of_ble_eq_true rfl⟩ ?_
    exact ⟨rfl, rfl⟩
  · subst hr
    obtain ⟨w, rfl⟩ := hI v x1 rfl
    refine xi2l hk dL_passDays_7 ?_
    refine xlast hk dL_passDays_8 rfl (inB_v (by decide)) ?_
    refine xgoto hk 15 dL_passDays_9 (by decide) ?_
    refine xiconst (v := 0) hk dL_passDays_15 (by decide) ?_
    refine xiret hk he dL_passDays_16 ⟨Nat.le_of_ble_eq_true rfl, Nat.le_of_ble_eq_true rfl⟩ ?_
    exact ⟨rfl, rfl⟩
set_option maxHeartbeats 4000000 in
set_option maxRecDepth 100000 in
theorem w_standingAfter {g : Gx} {a : Nat → Nat} {x : XS} {p : Int32} {u : RT} (hfl : g.1.stackTraces = false) (h : f_X8_standingAfter p x = some u) (hE : ∀ (E : String) (x1 : XS), u = .inl (E, x1) → E = "java/lang/IllegalArgumentException") (hI : ∀ (v : Option Value) (x1 : XS), u = .inr (v, x1) → ∃ w : Int32, v = some (.int w)) : Mw g yL_standingAfter cL_standingAfter 4 (some .int) [(0, 9, 12, 19)] 10 3 18 LFO a x [.ref (a 0), .int p, .ref (a 48)] (wres code1 cvI x u) := by
  refine Mw_of (by decide +kernel) (Nat.le_of_ble_eq_true rfl) ?_
  intro k hk he hg ht
  subst hg
  refine xaload_n hk dL_standingAfter_0 rfl ?_
  refine xiconst (v := 0) hk dL_standingAfter_1 (by decide) ?_
  refine xaload_n hk dL_standingAfter_2 rfl ?_
  refine xiload_n hk dL_standingAfter_3 rfl ?_
  refine xcallVTC 0 sub_LFO pa0 px0 hk ht (c_X8_standingAfter hfl h) bX8_standingAfter kL_84 dL_standingAfter_4 rfl ⟨_, _, _, _, rfl, rfl⟩ rfl (by decide) ⟨Nat.le_of_ble_eq_true rfl, Nat.le_of_ble_eq_true rfl⟩ (Nat.le_of_ble_eq_true rfl) (fun E x1 hr => ?_) (fun v x1 hr => ?_)
  · subst hr
    obtain rfl := hE E x1 rfl
    refine ⟨[], ⟨0, 9, 12, 19⟩, [], "java/lang/IllegalArgumentException", rfl, (fun _ h => absurd h List.not_mem_nil), by decide, by decide, linkIAE, castIAE, fun q9 => ?_⟩
    refine xastore_n hk dL_standingAfter_12 (by decide) ?_
    refine xiconst (v := 1) hk dL_standingAfter_13 (by decide) ?_
    refine xiret hk he dL_standingAfter_14 ⟨Nat.le_of_ble_eq_true rfl, Nat.le_of_ble_eq_true rfl⟩ ?_
    exact ⟨rfl, rfl⟩
  · subst hr
    obtain ⟨w, rfl⟩ := hI v x1 rfl
    refine xi2l hk dL_standingAfter_7 ?_
    refine xlast hk dL_standingAfter_8 rfl (inB_v (by decide)) ?_
    refine xgoto hk 15 dL_standingAfter_9 (by decide) ?_
    refine xiconst (v := 0) hk dL_standingAfter_15 (by decide) ?_
    refine xiret hk he dL_standingAfter_16 ⟨Nat.le_of_ble_eq_true rfl, Nat.le_of_ble_eq_true rfl⟩ ?_
    exact ⟨rfl, rfl⟩
set_option maxHeartbeats 4000000 in
set_option maxRecDepth 100000 in
theorem w_peacesAfter {g : Gx} {a : Nat → Nat} {x : XS} {p : Int32} {u : RT} (hfl : g.1.stackTraces = false) (h : f_X8_peacesAfter p x = some u) (hE : ∀ (E : String) (x1 : XS), u = .inl (E, x1) → E = "java/lang/IllegalArgumentException") (hI : ∀ (v : Option Value) (x1 : XS), u = .inr (v, x1) → ∃ w : Int32, v = some (.int w)) : Mw g yL_peacesAfter cL_peacesAfter 4 (some .int) [(0, 9, 12, 19)] 10 3 18 LFO a x [.ref (a 0), .int p, .ref (a 48)] (wres code1 cvI x u) := by
  refine Mw_of (by decide +kernel) (Nat.le_of_ble_eq_true rfl) ?_
  intro k hk he hg ht
  subst hg
  refine xaload_n hk dL_peacesAfter_0 rfl ?_
  refine xiconst (v := 0) hk dL_peacesAfter_1 (by decide) ?_
  refine xaload_n hk dL_peacesAfter_2 rfl ?_
  refine xiload_n hk dL_peacesAfter_3 rfl ?_
  refine xcallVTC 0 sub_LFO pa0 px0 hk ht (c_X8_peacesAfter hfl h) bX8_peacesAfter kL_87 dL_peacesAfter_4 rfl ⟨_, _, _, _, rfl, rfl⟩ rfl (by decide) ⟨Nat.le_of_ble_eq_true rfl, Nat.le_of_ble_eq_true rfl⟩ (Nat.le_of_ble_eq_true rfl) (fun E x1 hr => ?_) (fun v x1 hr => ?_)
  · subst hr
    obtain rfl := hE E x1 rfl
    refine ⟨[], ⟨0, 9, 12, 19⟩, [], "java/lang/IllegalArgumentException", rfl, (fun _ h => absurd h List.not_mem_nil), by decide, by decide, linkIAE, castIAE, fun q9 => ?_⟩
    refine xastore_n hk dL_peacesAfter_12 (by decide) ?_
    refine xiconst (v := 1) hk dL_peacesAfter_13 (by decide) ?_
    refine xiret hk he dL_peacesAfter_14 ⟨Nat.le_of_ble_eq_true rfl, Nat.le_of_ble_eq_true rfl⟩ ?_
    exact ⟨rfl, rfl⟩
  · subst hr
    obtain ⟨w, rfl⟩ := hI v x1 rfl
    refine xi2l hk dL_peacesAfter_7 ?_
    refine xlast hk dL_peacesAfter_8 rfl (inB_v (by decide)) ?_
    refine xgoto hk 15 dL_peacesAfter_9 (by decide) ?_
    refine xiconst (v := 0) hk dL_peacesAfter_15 (by decide) ?_
    refine xiret hk he dL_peacesAfter_16 ⟨Nat.le_of_ble_eq_true rfl, Nat.le_of_ble_eq_true rfl⟩ ?_
    exact ⟨rfl, rfl⟩
set_option maxHeartbeats 4000000 in
set_option maxRecDepth 100000 in
theorem w_mostTellingOath {g : Gx} {a : Nat → Nat} {x : XS}  {u : RT} (hfl : g.1.stackTraces = false) (h : f_X8_mostTellingOath  x = some u) (hE : ∀ (E : String) (x1 : XS), u = .inl (E, x1) → E = "java/lang/IllegalStateException") (hI : ∀ (v : Option Value) (x1 : XS), u = .inr (v, x1) → ∃ w : Int32, v = some (.int w)) : Mw g yL_mostTellingOath cL_mostTellingOath 3 (some .int) [(0, 8, 11, 13)] 10 3 18 LFO a x [.ref (a 0), .ref (a 48)] (wres code1 cvI x u) := by
  refine Mw_of (by decide +kernel) (Nat.le_of_ble_eq_true rfl) ?_
  intro k hk he hg ht
  subst hg
  refine xaload_n hk dL_mostTellingOath_0 rfl ?_
  refine xiconst (v := 0) hk dL_mostTellingOath_1 (by decide) ?_
  refine xaload_n hk dL_mostTellingOath_2 rfl ?_
  refine xcallVTC 0 sub_LFO pa0 px0 hk ht (c_X8_mostTellingOath hfl h) bX8_mostTellingOath kL_90 dL_mostTellingOath_3 rfl ⟨_, _, _, _, rfl, rfl⟩ rfl (by decide) ⟨Nat.le_of_ble_eq_true rfl, Nat.le_of_ble_eq_true rfl⟩ (Nat.le_of_ble_eq_true rfl) (fun E x1 hr => ?_) (fun v x1 hr => ?_)
  · subst hr
    obtain rfl := hE E x1 rfl
    refine ⟨[], ⟨0, 8, 11, 13⟩, [], "java/lang/IllegalStateException", rfl, (fun _ h => absurd h List.not_mem_nil), by decide, by decide, linkISE, castISE, fun q9 => ?_⟩
    refine xastore_n hk dL_mostTellingOath_11 (by decide) ?_
    refine xiconst (v := 1) hk dL_mostTellingOath_12 (by decide) ?_
    refine xiret hk he dL_mostTellingOath_13 ⟨Nat.le_of_ble_eq_true rfl, Nat.le_of_ble_eq_true rfl⟩ ?_
    exact ⟨rfl, rfl⟩
  · subst hr
    obtain ⟨w, rfl⟩ := hI v x1 rfl
    refine xi2l hk dL_mostTellingOath_6 ?_
    refine xlast hk dL_mostTellingOath_7 rfl (inB_v (by decide)) ?_
    refine xgoto hk 14 dL_mostTellingOath_8 (by decide) ?_
    refine xiconst (v := 0) hk dL_mostTellingOath_14 (by decide) ?_
    refine xiret hk he dL_mostTellingOath_15 ⟨Nat.le_of_ble_eq_true rfl, Nat.le_of_ble_eq_true rfl⟩ ?_
    exact ⟨rfl, rfl⟩
