/-! Token.<init>()V -/
def M_X9_init : hf_D := (yX9_init, cX9_init, 1, none, 1, 20)
def f_X9_init (x0 : Int) : hf_M Int :=
  hf_ob 9 x0 (hf_bd (hf_na 20 0) (fun v6 => hf_bd (hf_pf 9 0 x0 v6) (fun _ => hf_bd (hf_pf 9 1 x0 0) (fun _ => hf_bd (hf_pf 9 2 x0 0) (fun _ => hf_bd (hf_pf 9 3 x0 0) (fun _ => hf_bd (hf_pf 9 4 x0 0) (fun _ => hf_bd (hf_pf 9 5 x0 0) (fun _ => hf_ret 0))))))))
theorem cal_X9_init : hf_cix M_X9_init 0 := ⟨⟨ii_X9, kc_X9_init, by decide, by decide, by decide +kernel⟩, ki_X9_init, rfl⟩
set_option maxRecDepth 20000 in
theorem c_X9_init (x0 : Int) : hf_Met M_X9_init [2] [x0] (f_X9_init x0) := by
  refine hf_met rfl (by decide) (by decide) (by decide) ?_
  show hf_J M_X9_init 0 [(0, 2, x0)] [] _
  refine hf_ald_n (pc := 0) 0 rfl rfl dX9_init_0 ?_
  refine hf_objinit (pc := 1) 9 ml_X9_1 oi_in oi_co ⟨hf_le rfl, hf_le rfl⟩ dX9_init_1 ?_
  refine hf_ald_n (pc := 4) 0 rfl rfl dX9_init_4 ?_
  refine hf_iconst (pc := 5) dX9_init_5 ?_
  refine hf_newa0 (pc := 6) (tg := 20) (by decide) (by decide) rfl ac_int dX9_init_6 (fun v6 => ?_)
  refine hf_putf (pc := 8) fl_X9_7 trivial dX9_init_8 ?_
  refine hf_ald_n (pc := 11) 0 rfl rfl dX9_init_11 ?_
  refine hf_iconst (pc := 12) dX9_init_12 ?_
  refine hf_putf (pc := 13) fl_X9_13 trivial dX9_init_13 ?_
  refine hf_ald_n (pc := 16) 0 rfl rfl dX9_init_16 ?_
  refine hf_iconst (pc := 17) dX9_init_17 ?_
  refine hf_putf (pc := 18) fl_X9_17 trivial dX9_init_18 ?_
  refine hf_ald_n (pc := 21) 0 rfl rfl dX9_init_21 ?_
  refine hf_iconst (pc := 22) dX9_init_22 ?_
  refine hf_putf (pc := 23) fl_X9_20 trivial dX9_init_23 ?_
  refine hf_ald_n (pc := 26) 0 rfl rfl dX9_init_26 ?_
  refine hf_iconst (pc := 27) dX9_init_27 ?_
  refine hf_putf (pc := 28) fl_X9_23 trivial dX9_init_28 ?_
  refine hf_ald_n (pc := 31) 0 rfl rfl dX9_init_31 ?_
  refine hf_iconst (pc := 32) dX9_init_32 ?_
  refine hf_putf (pc := 33) fl_X9_26 trivial dX9_init_33 ?_
  exact hf_Jret (pc := 36) dX9_init_36 (fun _ => rfl)
/-! PlanReader.<init>()V -/
def M_X5_init : hf_D := (yX5_init, cX5_init, 1, none, 2, 40)
def f_X5_init (x0 : Int) : hf_M Int :=
  hf_ob 5 x0 (hf_bd (hf_nw 9 6) (fun v5 => hf_bd (hf_ob 9 v5 (f_X9_init v5)) (fun _ => hf_bd (hf_pf 5 0 x0 v5) (fun _ => hf_bd (hf_nw 4 6) (fun v16 => hf_bd (hf_ob 4 v16 (f_X4_init v16)) (fun _ => hf_bd (hf_pf 5 1 x0 v16) (fun _ => hf_bd (hf_na 20 72) (fun v29 => hf_bd (hf_pf 5 2 x0 v29) (fun _ => hf_bd (hf_pf 5 3 x0 0) (fun _ => hf_bd (hf_pf 5 4 x0 0) (fun _ => hf_bd (hf_pf 5 5 x0 0) (fun _ => hf_bd (hf_pf 5 6 x0 0) (fun _ => hf_bd (hf_pf 5 7 x0 0) (fun _ => hf_bd (hf_na 23 9) (fun v62 => hf_bd (hf_pf 5 8 x0 v62) (fun _ => hf_bd (hf_pf 5 9 x0 0) (fun _ => hf_bd (hf_pf 5 10 x0 0) (fun _ => hf_bd (hf_pf 5 11 x0 0) (fun _ => hf_bd (hf_pf 5 12 x0 (-1)) (fun _ => hf_ret 0))))))))))))))))))))
theorem cal_X5_init : hf_cix M_X5_init 0 := ⟨⟨ii_X5, kc_X5_init, by decide, by decide, by decide +kernel⟩, ki_X5_init, rfl⟩
set_option maxRecDepth 20000 in
theorem c_X5_init (x0 : Int) : hf_Met M_X5_init [2] [x0] (f_X5_init x0) := by
  refine hf_met rfl (by decide) (by decide) (by decide) ?_
  show hf_J M_X5_init 0 [(0, 2, x0)] [] _
  refine hf_ald_n (pc := 0) 0 rfl rfl dX5_init_0 ?_
  refine hf_objinit (pc := 1) 5 ml_X5_3 oi_in oi_co ⟨hf_le rfl, hf_le rfl⟩ dX5_init_1 ?_
  refine hf_ald_n (pc := 4) 0 rfl rfl dX5_init_4 ?_
  refine hf_new (pc := 5) (tg := 9) (q := (RX9, TX9, 6)) rfl cl_X5_9 it_X9 ii_X9 dX5_init_5 (fun v5 => ?_)
  refine hf_dup (pc := 8) (by decide) dX5_init_8 ?_
  refine hf_cIN (pc := 9) (N := M_X9_init) (ts := []) (vs := []) (st := [(2, v5), (2, x0)]) (fun r => [(2, v5), (2, x0)]) (c_X9_init v5) rfl cal_X9_init mn_X5_11 ⟨hf_le rfl, hf_le rfl⟩ (hf_le rfl) ⟨rfl, rfl⟩ rfl dX5_init_9 (fun _ => rfl) (fun _ => ?_)
  refine hf_putfF (pc := 12) fl_X5_12 rfl (fun q hq => by cases hq; rfl) trivial dX5_init_12 ?_
  refine hf_ald_n (pc := 15) 0 rfl rfl dX5_init_15 ?_
  refine hf_new (pc := 16) (tg := 4) (q := (RX4, TX4, 6)) rfl cl_X5_18 it_X4 ii_X4 dX5_init_16 (fun v16 => ?_)
  refine hf_dup (pc := 19) (by decide) dX5_init_19 ?_
  refine hf_cIN (pc := 20) (N := M_X4_init) (ts := []) (vs := []) (st := [(2, v16), (2, x0)]) (fun r => [(2, v16), (2, x0)]) (c_X4_init v16) rfl cal_X4_init mn_X5_20 ⟨hf_le rfl, hf_le rfl⟩ (hf_le rfl) ⟨rfl, rfl⟩ rfl dX5_init_20 (fun _ => rfl) (fun _ => ?_)
  refine hf_putf (pc := 23) fl_X5_21 trivial dX5_init_23 ?_
  refine hf_ald_n (pc := 26) 0 rfl rfl dX5_init_26 ?_
  refine hf_bipush (pc := 27) dX5_init_27 (by decide) ?_
  refine hf_newa0 (pc := 29) (tg := 20) (by decide) (by decide) rfl ac_int dX5_init_29 (fun v29 => ?_)
  refine hf_putfF (pc := 31) fl_X5_25 rfl (fun q hq => by cases hq; rfl) trivial dX5_init_31 ?_
  refine hf_ald_n (pc := 34) 0 rfl rfl dX5_init_34 ?_
  refine hf_iconst (pc := 35) dX5_init_35 ?_
  refine hf_putf (pc := 36) fl_X5_29 trivial dX5_init_36 ?_
  refine hf_ald_n (pc := 39) 0 rfl rfl dX5_init_39 ?_
  refine hf_iconst (pc := 40) dX5_init_40 ?_
  refine hf_putf (pc := 41) fl_X5_33 trivial dX5_init_41 ?_
  refine hf_ald_n (pc := 44) 0 rfl rfl dX5_init_44 ?_
  refine hf_iconst (pc := 45) dX5_init_45 ?_
  refine hf_putf (pc := 46) fl_X5_36 trivial dX5_init_46 ?_
  refine hf_ald_n (pc := 49) 0 rfl rfl dX5_init_49 ?_
  refine hf_iconst (pc := 50) dX5_init_50 ?_
  refine hf_putf (pc := 51) fl_X5_39 trivial dX5_init_51 ?_
  refine hf_ald_n (pc := 54) 0 rfl rfl dX5_init_54 ?_
  refine hf_iconst (pc := 55) dX5_init_55 ?_
  refine hf_putf (pc := 56) fl_X5_42 trivial dX5_init_56 ?_
  refine hf_ald_n (pc := 59) 0 rfl rfl dX5_init_59 ?_
  refine hf_bipush (pc := 60) dX5_init_60 (by decide) ?_
  refine hf_newa0 (pc := 62) (tg := 23) (by decide) (by decide) rfl ac_boolean dX5_init_62 (fun v62 => ?_)
  refine hf_putfF (pc := 64) fl_X5_45 rfl (fun q hq => by cases hq; rfl) trivial dX5_init_64 ?_
  refine hf_ald_n (pc := 67) 0 rfl rfl dX5_init_67 ?_
  refine hf_iconst (pc := 68) dX5_init_68 ?_
  refine hf_putf (pc := 69) fl_X5_49 (Or.inl rfl) dX5_init_69 ?_
  refine hf_ald_n (pc := 72) 0 rfl rfl dX5_init_72 ?_
  refine hf_iconst (pc := 73) dX5_init_73 ?_
  refine hf_putf (pc := 74) fl_X5_53 (Or.inl rfl) dX5_init_74 ?_
  refine hf_ald_n (pc := 77) 0 rfl rfl dX5_init_77 ?_
  refine hf_iconst (pc := 78) dX5_init_78 ?_
  refine hf_putf (pc := 79) fl_X5_56 trivial dX5_init_79 ?_
  refine hf_ald_n (pc := 82) 0 rfl rfl dX5_init_82 ?_
  refine hf_iconst (pc := 83) dX5_init_83 ?_
  refine hf_putf (pc := 84) fl_X5_59 trivial dX5_init_84 ?_
  exact hf_Jret (pc := 87) dX5_init_87 (fun _ => rfl)
/-! Reckoner.<init>()V -/
def M_X7_init : hf_D := (yX7_init, cX7_init, 1, none, 1, 20)
def f_X7_init (x0 : Int) : hf_M Int :=
  hf_ob 7 x0 (hf_bd (hf_na 21 64) (fun v7 => hf_bd (hf_pf 7 0 x0 v7) (fun _ => hf_bd (hf_pf 7 1 x0 0) (fun _ => hf_bd (hf_pf 7 2 x0 0) (fun _ => hf_ret 0)))))
theorem cal_X7_init : hf_cix M_X7_init 0 := ⟨⟨ii_X7, kc_X7_init, by decide, by decide, by decide +kernel⟩, ki_X7_init, rfl⟩
set_option maxRecDepth 20000 in
theorem c_X7_init (x0 : Int) : hf_Met M_X7_init [2] [x0] (f_X7_init x0) := by
  refine hf_met rfl (by decide) (by decide) (by decide) ?_
  show hf_J M_X7_init 0 [(0, 2, x0)] [] _
  refine hf_ald_n (pc := 0) 0 rfl rfl dX7_init_0 ?_
  refine hf_objinit (pc := 1) 7 ml_X7_1 oi_in oi_co ⟨hf_le rfl, hf_le rfl⟩ dX7_init_1 ?_
  refine hf_ald_n (pc := 4) 0 rfl rfl dX7_init_4 ?_
  refine hf_bipush (pc := 5) dX7_init_5 (by decide) ?_
  refine hf_newa0 (pc := 7) (tg := 21) (by decide) (by decide) rfl ac_long dX7_init_7 (fun v7 => ?_)
  refine hf_putfF (pc := 9) fl_X7_9 rfl (fun q hq => by cases hq; rfl) trivial dX7_init_9 ?_
  refine hf_ald_n (pc := 12) 0 rfl rfl dX7_init_12 ?_
  refine hf_iconst (pc := 13) dX7_init_13 ?_
  refine hf_putf (pc := 14) fl_X7_15 trivial dX7_init_14 ?_
  refine hf_ald_n (pc := 17) 0 rfl rfl dX7_init_17 ?_
  refine hf_iconst (pc := 18) dX7_init_18 ?_
  refine hf_putf (pc := 19) fl_X7_19 (Or.inl rfl) dX7_init_19 ?_
  exact hf_Jret (pc := 22) dX7_init_22 (fun _ => rfl)
/-! PlanTrial.<init>()V -/
def M_X6_init : hf_D := (yX6_init, cX6_init, 1, none, 2, 41)
def f_X6_init (x0 : Int) : hf_M Int :=
  hf_ob 6 x0 (hf_bd (hf_nw 1 14) (fun v5 => hf_bd (hf_ob 1 v5 (f_X1_init v5 200)) (fun _ => hf_bd (hf_pf 6 0 x0 v5) (fun _ => hf_bd (hf_nw 7 3) (fun v19 => hf_bd (hf_ob 7 v19 (f_X7_init v19)) (fun _ => hf_bd (hf_pf 6 1 x0 v19) (fun _ => hf_bd (hf_pf 6 2 x0 3) (fun _ => hf_bd (hf_pf 6 3 x0 (-1)) (fun _ => hf_ret 0)))))))))
theorem cal_X6_init : hf_cix M_X6_init 0 := ⟨⟨ii_X6, kc_X6_init, by decide, by decide, by decide +kernel⟩, ki_X6_init, rfl⟩
set_option maxRecDepth 20000 in
theorem c_X6_init (x0 : Int) : hf_Met M_X6_init [2] [x0] (f_X6_init x0) := by
  refine hf_met rfl (by decide) (by decide) (by decide) ?_
  show hf_J M_X6_init 0 [(0, 2, x0)] [] _
  refine hf_ald_n (pc := 0) 0 rfl rfl dX6_init_0 ?_
  refine hf_objinit (pc := 1) 6 ml_X6_3 oi_in oi_co ⟨hf_le rfl, hf_le rfl⟩ dX6_init_1 ?_
  refine hf_ald_n (pc := 4) 0 rfl rfl dX6_init_4 ?_
  refine hf_new (pc := 5) (tg := 1) (q := (RX1, TX1, 14)) rfl cl_X6_9 it_X1 ii_X1 dX6_init_5 (fun v5 => ?_)
  refine hf_dup (pc := 8) (by decide) dX6_init_8 ?_
  refine hf_sipush (pc := 9) dX6_init_9 (by decide) ?_
  refine hf_cI (pc := 12) (N := M_X1_init) (ts := [0]) (vs := [200]) (st := [(2, v5), (2, x0)]) (fun r => [(2, v5), (2, x0)]) (c_X1_init v5 200) rfl cal_X1_init ml_X6_11 ⟨hf_le rfl, hf_le rfl⟩ (hf_le rfl) ⟨rfl, rfl⟩ rfl dX6_init_12 (fun _ => rfl) (fun _ => ?_)
  refine hf_putfF (pc := 15) fl_X6_14 rfl (fun q hq => by cases hq; rfl) trivial dX6_init_15 ?_
  refine hf_ald_n (pc := 18) 0 rfl rfl dX6_init_18 ?_
  refine hf_new (pc := 19) (tg := 7) (q := (RX7, TX7, 3)) rfl cl_X6_20 it_X7 ii_X7 dX6_init_19 (fun v19 => ?_)
  refine hf_dup (pc := 22) (by decide) dX6_init_22 ?_
  refine hf_cIN (pc := 23) (N := M_X7_init) (ts := []) (vs := []) (st := [(2, v19), (2, x0)]) (fun r => [(2, v19), (2, x0)]) (c_X7_init v19) rfl cal_X7_init mn_X6_22 ⟨hf_le rfl, hf_le rfl⟩ (hf_le rfl) ⟨rfl, rfl⟩ rfl dX6_init_23 (fun _ => rfl) (fun _ => ?_)
  refine hf_putfF (pc := 26) fl_X6_23 rfl (fun q hq => by cases hq; rfl) trivial dX6_init_26 ?_
  refine hf_ald_n (pc := 29) 0 rfl rfl dX6_init_29 ?_
  refine hf_iconst (pc := 30) dX6_init_30 ?_
  refine hf_putf (pc := 31) fl_X6_27 trivial dX6_init_31 ?_
  refine hf_ald_n (pc := 34) 0 rfl rfl dX6_init_34 ?_
  refine hf_ldc2 (pc := 35) (n := (-1)) co_X6_31 (by decide) dX6_init_35 ?_
  refine hf_putf (pc := 38) fl_X6_33 trivial dX6_init_38 ?_
  exact hf_Jret (pc := 41) dX6_init_41 (fun _ => rfl)
/-! Token.open([II)V -/
def M_X9_open : hf_D := (yX9_open, cX9_open, 3, none, 1, 24)
def f_X9_open (x0 x1 x2 : Int) : hf_M Int :=
  hf_bd (hf_pf 9 0 x0 x1) (fun _ => hf_bd (hf_an 20 x1) (fun v8 => hf_ck (hf_inI x2 ∧ hf_inI v8) (hf_bd (hf_ret (min x2 v8)) (fun v9 => hf_bd (hf_pf 9 1 x0 v9) (fun _ => hf_bd (hf_pf 9 2 x0 0) (fun _ => hf_ret 0))))))
theorem cal_X9_open : hf_cv M_X9_open 9 2 := ⟨⟨ii_X9, kc_X9_open, by decide, by decide, by decide +kernel⟩, ki_X9_open, kv_X9_open, _, rfl, rfl⟩
set_option maxRecDepth 20000 in
theorem c_X9_open (x0 x1 x2 : Int) : hf_Met M_X9_open [2, 2, 0] [x0, x1, x2] (f_X9_open x0 x1 x2) := by
  refine hf_met rfl (by decide) (by decide) (by decide) ?_
  show hf_J M_X9_open 0 [(0, 2, x0), (1, 2, x1), (2, 0, x2)] [] _
  refine hf_ald_n (pc := 0) 0 rfl rfl dX9_open_0 ?_
  refine hf_ald_n (pc := 1) 1 rfl rfl dX9_open_1 ?_
  refine hf_putf (pc := 2) fl_X9_7 trivial dX9_open_2 ?_
  refine hf_ald_n (pc := 5) 0 rfl rfl dX9_open_5 ?_
  refine hf_ild_n (pc := 6) 2 rfl rfl dX9_open_6 ?_
  refine hf_ald_n (pc := 7) 1 rfl rfl dX9_open_7 ?_
  refine hf_alen (pc := 8) 20 (by decide) (by decide) dX9_open_8 (fun v8 => ?_)
  refine hf_mmin (pc := 9) ml_X9_29 ⟨hf_le rfl, hf_le rfl⟩ dX9_open_9 (fun v9 => ?_)
  refine hf_putf (pc := 12) fl_X9_13 trivial dX9_open_12 ?_
  refine hf_ald_n (pc := 15) 0 rfl rfl dX9_open_15 ?_
  refine hf_iconst (pc := 16) dX9_open_16 ?_
  refine hf_putf (pc := 17) fl_X9_17 trivial dX9_open_17 ?_
  exact hf_Jret (pc := 20) dX9_open_20 (fun _ => rfl)
/-! Token.isDigitAt(I)Z -/
def M_X9_isDigitAt : hf_D := (yX9_isDigitAt, cX9_isDigitAt, 2, some .boolean, 0, 0)
def f_X9_isDigitAt (x0 x1 : Int) : hf_M Int :=
  hf_bd (hf_gf 9 1 x0) (fun v2 => hf_cb x1 v2 (v2 ≤ x1) (hf_ret 0) (hf_bd (hf_gf 9 0 x0) (fun v9 => hf_bd (hf_al 20 v9 x1) (fun v13 => hf_cb v13 48 (v13 < 48) (hf_ret 0) (hf_bd (hf_gf 9 0 x0) (fun v20 => hf_bd (hf_al 20 v20 x1) (fun v24 => hf_cb v24 57 (57 < v24) (hf_ret 0) (hf_ret 1))))))))
theorem cal_X9_isDigitAt : hf_cv M_X9_isDigitAt 9 1 := ⟨⟨ii_X9, kc_X9_isDigitAt, by decide, by decide, by decide +kernel⟩, ki_X9_isDigitAt, kv_X9_isDigitAt, _, rfl, rfl⟩
set_option maxRecDepth 20000 in
theorem c_X9_isDigitAt (x0 x1 : Int) : hf_Met M_X9_isDigitAt [2, 0] [x0, x1] (f_X9_isDigitAt x0 x1) := by
  refine hf_met rfl (by decide) (by decide) (by decide) ?_
  show hf_J M_X9_isDigitAt 0 [(0, 2, x0), (1, 0, x1)] [] _
  refine hf_ild_n (pc := 0) 1 rfl rfl dX9_isDigitAt_0 ?_
  refine hf_ald_n (pc := 1) 0 rfl rfl dX9_isDigitAt_1 ?_
  refine hf_getf (pc := 2) fl_X9_13 dX9_isDigitAt_2 (fun v2 => ?_)
  refine hf_icmp_ge (pc := 5) 34 dX9_isDigitAt_5 rfl ?_ ?_
  · refine hf_iconst (pc := 34) dX9_isDigitAt_34 ?_
    exact hf_Jret (pc := 35) (r := 0) ⟨dX9_isDigitAt_35, Or.inl rfl⟩ (fun _ => rfl)
  · refine hf_ald_n (pc := 8) 0 rfl rfl dX9_isDigitAt_8 ?_
    refine hf_getf (pc := 9) fl_X9_7 dX9_isDigitAt_9 (fun v9 => ?_)
    refine hf_ild_n (pc := 12) 1 rfl rfl dX9_isDigitAt_12 ?_
    refine hf_iald (pc := 13) dX9_isDigitAt_13 (fun v13 => ?_)
    refine hf_bipush (pc := 14) dX9_isDigitAt_14 (by decide) ?_
    refine hf_icmp_lt (pc := 16) 34 dX9_isDigitAt_16 rfl ?_ ?_
    · refine hf_iconst (pc := 34) dX9_isDigitAt_34 ?_
      exact hf_Jret (pc := 35) (r := 0) ⟨dX9_isDigitAt_35, Or.inl rfl⟩ (fun _ => rfl)
    · refine hf_ald_n (pc := 19) 0 rfl rfl dX9_isDigitAt_19 ?_
      refine hf_getf (pc := 20) fl_X9_7 dX9_isDigitAt_20 (fun v20 => ?_)
      refine hf_ild_n (pc := 23) 1 rfl rfl dX9_isDigitAt_23 ?_
      refine hf_iald (pc := 24) dX9_isDigitAt_24 (fun v24 => ?_)
      refine hf_bipush (pc := 25) dX9_isDigitAt_25 (by decide) ?_
      refine hf_icmp_gt (pc := 27) 34 dX9_isDigitAt_27 rfl ?_ ?_
      · refine hf_iconst (pc := 34) dX9_isDigitAt_34 ?_
        exact hf_Jret (pc := 35) (r := 0) ⟨dX9_isDigitAt_35, Or.inl rfl⟩ (fun _ => rfl)
      · refine hf_iconst (pc := 30) dX9_isDigitAt_30 ?_
        refine hf_goto (pc := 31) 35 dX9_isDigitAt_31 rfl ?_
        exact hf_Jret (pc := 35) (r := 1) ⟨dX9_isDigitAt_35, Or.inr rfl⟩ (fun _ => rfl)
/-! Token.readNumber()V -/
def M_X9_readNumber : hf_D := (yX9_readNumber, cX9_readNumber, 1, none, 1, 24)
def B_X9_readNumber_5 (x0 : Int) (rec_5 : Unit → hf_M Int) : hf_M Int :=
  hf_bd (hf_gf 9 2 x0) (fun v7 => hf_bd (hf_ob 9 x0 (f_X9_isDigitAt x0 v7)) (fun v10 => hf_cz v10 (v10 = 0) (hf_ret 0) (hf_bd (hf_gf 9 5 x0) (fun v21 => hf_bd (hf_gf 9 0 x0) (fun v28 => hf_bd (hf_gf 9 2 x0) (fun v32 => hf_bd (hf_al 20 v28 v32) (fun v35 => hf_ck (hf_inI 1000 ∧ hf_inI (((v21 * 10) + v35) - 48)) (hf_bd (hf_ret (min 1000 (((v21 * 10) + v35) - 48))) (fun v40 => hf_bd (hf_pf 9 5 x0 v40) (fun _ => hf_bd (hf_gf 9 2 x0) (fun v48 => hf_bd (hf_pf 9 2 x0 (v48 + 1)) (fun _ => rec_5 ()))))))))))))
def f_X9_readNumber_5 (x0 : Int) : hf_M Int := hf_fx (fun rec s => B_X9_readNumber_5 x0 rec) hf_N ()
def f_X9_readNumber (x0 : Int) : hf_M Int :=
  hf_bd (hf_pf 9 3 x0 2) (fun _ => f_X9_readNumber_5 x0)
theorem cal_X9_readNumber : hf_cv M_X9_readNumber 9 0 := ⟨⟨ii_X9, kc_X9_readNumber, by decide, by decide, by decide +kernel⟩, ki_X9_readNumber, kv_X9_readNumber, _, rfl, rfl⟩
set_option maxRecDepth 20000 in
theorem jb_X9_readNumber_5 (x0 : Int) (rec_5 : Unit → hf_M Int) (hrec_5 : ∀ s : Unit, hf_J M_X9_readNumber 5 [(0, 2, x0)] [] (rec_5 s)) : hf_J M_X9_readNumber 5 [(0, 2, x0)] [] (B_X9_readNumber_5 x0 rec_5) := by
  refine hf_ald_n (pc := 5) 0 rfl rfl dX9_readNumber_5 ?_
  refine hf_ald_n (pc := 6) 0 rfl rfl dX9_readNumber_6 ?_
  refine hf_getf (pc := 7) fl_X9_17 dX9_readNumber_7 (fun v7 => ?_)
  refine hf_cV (pc := 10) (N := M_X9_isDigitAt) (ts := [0]) (vs := [v7]) (st := []) (fun r => [(0, r)]) (c_X9_isDigitAt x0 v7) cal_X9_isDigitAt ml_X9_35 ⟨hf_le rfl, hf_le rfl⟩ (hf_le rfl) ⟨rfl, rfl⟩ rfl dX9_readNumber_10 (fun _ => rfl) (fun v10 => ?_)
  refine hf_if_eq (pc := 13) 59 dX9_readNumber_13 rfl ?_ ?_
  · exact hf_Jret (pc := 59) dX9_readNumber_59 (fun _ => rfl)
  · refine hf_ald_n (pc := 16) 0 rfl rfl dX9_readNumber_16 ?_
    refine hf_sipush (pc := 17) dX9_readNumber_17 (by decide) ?_
    refine hf_ald_n (pc := 20) 0 rfl rfl dX9_readNumber_20 ?_
    refine hf_getf (pc := 21) fl_X9_26 dX9_readNumber_21 (fun v21 => ?_)
    refine hf_bipush (pc := 24) dX9_readNumber_24 (by decide) ?_
    refine hf_imul (pc := 26) dX9_readNumber_26 ?_
    refine hf_ald_n (pc := 27) 0 rfl rfl dX9_readNumber_27 ?_
    refine hf_getf (pc := 28) fl_X9_7 dX9_readNumber_28 (fun v28 => ?_)
    refine hf_ald_n (pc := 31) 0 rfl rfl dX9_readNumber_31 ?_
    refine hf_getf (pc := 32) fl_X9_17 dX9_readNumber_32 (fun v32 => ?_)
    refine hf_iald (pc := 35) dX9_readNumber_35 (fun v35 => ?_)
    refine hf_iadd (pc := 36) dX9_readNumber_36 ?_
    refine hf_bipush (pc := 37) dX9_readNumber_37 (by decide) ?_
    refine hf_isub (pc := 39) dX9_readNumber_39 ?_
    refine hf_mmin (pc := 40) ml_X9_29 ⟨hf_le rfl, hf_le rfl⟩ dX9_readNumber_40 (fun v40 => ?_)
    refine hf_putf (pc := 43) fl_X9_26 trivial dX9_readNumber_43 ?_
    refine hf_ald_n (pc := 46) 0 rfl rfl dX9_readNumber_46 ?_
    refine hf_dup (pc := 47) (by decide) dX9_readNumber_47 ?_
    refine hf_getf (pc := 48) fl_X9_17 dX9_readNumber_48 (fun v48 => ?_)
    refine hf_iconst (pc := 51) dX9_readNumber_51 ?_
    refine hf_iadd (pc := 52) dX9_readNumber_52 ?_
    refine hf_putf (pc := 53) fl_X9_17 trivial dX9_readNumber_53 ?_
    refine hf_goto (pc := 56) 5 dX9_readNumber_56 rfl ?_
    exact hf_sub [0] rfl (hrec_5 ())
set_option maxRecDepth 20000 in
theorem j_X9_readNumber_5 (x0 : Int) : hf_J M_X9_readNumber 5 [(0, 2, x0)] [] (f_X9_readNumber_5 x0) :=
  hf_Jfx (L := fun s => [(0, 2, x0)]) (fun rec hrec s => jb_X9_readNumber_5 x0 rec hrec) hf_N ()
set_option maxRecDepth 20000 in
theorem c_X9_readNumber (x0 : Int) : hf_Met M_X9_readNumber [2] [x0] (f_X9_readNumber x0) := by
  refine hf_met rfl (by decide) (by decide) (by decide) ?_
  show hf_J M_X9_readNumber 0 [(0, 2, x0)] [] _
  refine hf_ald_n (pc := 0) 0 rfl rfl dX9_readNumber_0 ?_
  refine hf_iconst (pc := 1) dX9_readNumber_1 ?_
  refine hf_putf (pc := 2) fl_X9_20 trivial dX9_readNumber_2 ?_
  exact hf_sub [0] rfl (j_X9_readNumber_5 x0)
/-! Token.isLetterAt(I)Z -/
def M_X9_isLetterAt : hf_D := (yX9_isLetterAt, cX9_isLetterAt, 2, some .boolean, 0, 0)
def f_X9_isLetterAt (x0 x1 : Int) : hf_M Int :=
  hf_bd (hf_gf 9 1 x0) (fun v2 => hf_cb x1 v2 (v2 ≤ x1) (hf_ret 0) (hf_bd (hf_gf 9 0 x0) (fun v9 => hf_bd (hf_al 20 v9 x1) (fun v13 => hf_cb v13 97 (v13 < 97) (hf_ret 0) (hf_bd (hf_gf 9 0 x0) (fun v20 => hf_bd (hf_al 20 v20 x1) (fun v24 => hf_cb v24 122 (122 < v24) (hf_ret 0) (hf_ret 1))))))))
theorem cal_X9_isLetterAt : hf_cv M_X9_isLetterAt 9 1 := ⟨⟨ii_X9, kc_X9_isLetterAt, by decide, by decide, by decide +kernel⟩, ki_X9_isLetterAt, kv_X9_isLetterAt, _, rfl, rfl⟩
set_option maxRecDepth 20000 in
theorem c_X9_isLetterAt (x0 x1 : Int) : hf_Met M_X9_isLetterAt [2, 0] [x0, x1] (f_X9_isLetterAt x0 x1) := by
  refine hf_met rfl (by decide) (by decide) (by decide) ?_
  show hf_J M_X9_isLetterAt 0 [(0, 2, x0), (1, 0, x1)] [] _
  refine hf_ild_n (pc := 0) 1 rfl rfl dX9_isLetterAt_0 ?_
  refine hf_ald_n (pc := 1) 0 rfl rfl dX9_isLetterAt_1 ?_
  refine hf_getf (pc := 2) fl_X9_13 dX9_isLetterAt_2 (fun v2 => ?_)
  refine hf_icmp_ge (pc := 5) 34 dX9_isLetterAt_5 rfl ?_ ?_
  · refine hf_iconst (pc := 34) dX9_isLetterAt_34 ?_
    exact hf_Jret (pc := 35) (r := 0) ⟨dX9_isLetterAt_35, Or.inl rfl⟩ (fun _ => rfl)
  · refine hf_ald_n (pc := 8) 0 rfl rfl dX9_isLetterAt_8 ?_
    refine hf_getf (pc := 9) fl_X9_7 dX9_isLetterAt_9 (fun v9 => ?_)
    refine hf_ild_n (pc := 12) 1 rfl rfl dX9_isLetterAt_12 ?_
    refine hf_iald (pc := 13) dX9_isLetterAt_13 (fun v13 => ?_)
    refine hf_bipush (pc := 14) dX9_isLetterAt_14 (by decide) ?_
    refine hf_icmp_lt (pc := 16) 34 dX9_isLetterAt_16 rfl ?_ ?_
    · refine hf_iconst (pc := 34) dX9_isLetterAt_34 ?_
      exact hf_Jret (pc := 35) (r := 0) ⟨dX9_isLetterAt_35, Or.inl rfl⟩ (fun _ => rfl)
    · refine hf_ald_n (pc := 19) 0 rfl rfl dX9_isLetterAt_19 ?_
      refine hf_getf (pc := 20) fl_X9_7 dX9_isLetterAt_20 (fun v20 => ?_)
      refine hf_ild_n (pc := 23) 1 rfl rfl dX9_isLetterAt_23 ?_
      refine hf_iald (pc := 24) dX9_isLetterAt_24 (fun v24 => ?_)
      refine hf_bipush (pc := 25) dX9_isLetterAt_25 (by decide) ?_
      refine hf_icmp_gt (pc := 27) 34 dX9_isLetterAt_27 rfl ?_ ?_
      · refine hf_iconst (pc := 34) dX9_isLetterAt_34 ?_
        exact hf_Jret (pc := 35) (r := 0) ⟨dX9_isLetterAt_35, Or.inl rfl⟩ (fun _ => rfl)
      · refine hf_iconst (pc := 30) dX9_isLetterAt_30 ?_
        refine hf_goto (pc := 31) 35 dX9_isLetterAt_31 rfl ?_
        exact hf_Jret (pc := 35) (r := 1) ⟨dX9_isLetterAt_35, Or.inr rfl⟩ (fun _ => rfl)
/-! Token.signOf(I)I -/
def M_X9_signOf : hf_D := (yX9_signOf, cX9_signOf, 1, some .int, 0, 0)
def f_X9_signOf (x0 : Int) : hf_M Int :=
  hf_ck (hf_inI x0) (hf_it (x0 = 40) (hf_ret 3) (hf_it (x0 = 41) (hf_ret 4) (hf_it (x0 = 42) (hf_ret 29) (hf_it (x0 = 43) (hf_ret 27) (hf_it (x0 = 45) (hf_ret 28) (hf_it (x0 = 47) (hf_ret 30) (hf_it (x0 = 59) (hf_ret 5) (hf_it (x0 = 60) (hf_ret 21) (hf_it (x0 = 61) (hf_ret 23) (hf_it (x0 = 62) (hf_ret 26) (hf_ret 1)))))))))))
theorem cal_X9_signOf : hf_csx M_X9_signOf 1 := ⟨⟨ii_X9, kc_X9_signOf, by decide, by decide, by decide +kernel⟩, ks_X9_signOf⟩
set_option maxRecDepth 20000 in
theorem c_X9_signOf (x0 : Int) : hf_Met M_X9_signOf [0] [x0] (f_X9_signOf x0) := by
  refine hf_met rfl (by decide) (by decide) (by decide) ?_
  show hf_J M_X9_signOf 0 [(0, 0, x0)] [] _
  refine hf_ild_n (pc := 0) 0 rfl rfl dX9_signOf_0 ?_
  refine hf_Jck (fun hr => ?_)
  refine hf_Jit (fun hc0 => ?_) (fun hc0 => ?_)
  · refine hf_tsw (pc := 1) 108 107 hr dX9_signOf_1 (by omega) (by omega) (by rw [hc0]; rfl) rfl ?_
    refine hf_iconst (pc := 108) dX9_signOf_108 ?_
    exact hf_Jret (pc := 109) dX9_signOf_109 (fun _ => rfl)
  · refine hf_Jit (fun hc1 => ?_) (fun hc1 => ?_)
    · refine hf_tsw (pc := 1) 110 109 hr dX9_signOf_1 (by omega) (by omega) (by rw [hc1]; rfl) rfl ?_
      refine hf_iconst (pc := 110) dX9_signOf_110 ?_
      exact hf_Jret (pc := 111) dX9_signOf_111 (fun _ => rfl)
    · refine hf_Jit (fun hc2 => ?_) (fun hc2 => ?_)
      · refine hf_tsw (pc := 1) 129 128 hr dX9_signOf_1 (by omega) (by omega) (by rw [hc2]; rfl) rfl ?_
        refine hf_bipush (pc := 129) dX9_signOf_129 (by decide) ?_
        exact hf_Jret (pc := 131) dX9_signOf_131 (fun _ => rfl)
      · refine hf_Jit (fun hc3 => ?_) (fun hc3 => ?_)
        · refine hf_tsw (pc := 1) 123 122 hr dX9_signOf_1 (by omega) (by omega) (by rw [hc3]; rfl) rfl ?_
          refine hf_bipush (pc := 123) dX9_signOf_123 (by decide) ?_
          exact hf_Jret (pc := 125) dX9_signOf_125 (fun _ => rfl)
        · refine hf_Jit (fun hc4 => ?_) (fun hc4 => ?_)
          · refine hf_tsw (pc := 1) 126 125 hr dX9_signOf_1 (by omega) (by omega) (by rw [hc4]; rfl) rfl ?_
            refine hf_bipush (pc := 126) dX9_signOf_126 (by decide) ?_
            exact hf_Jret (pc := 128) dX9_signOf_128 (fun _ => rfl)
          · refine hf_Jit (fun hc5 => ?_) (fun hc5 => ?_)
            · refine hf_tsw (pc := 1) 132 131 hr dX9_signOf_1 (by omega) (by omega) (by rw [hc5]; rfl) rfl ?_
              refine hf_bipush (pc := 132) dX9_signOf_132 (by decide) ?_
              exact hf_Jret (pc := 134) dX9_signOf_134 (fun _ => rfl)
            · refine hf_Jit (fun hc6 => ?_) (fun hc6 => ?_)
              · refine hf_tsw (pc := 1) 112 111 hr dX9_signOf_1 (by omega) (by omega) (by rw [hc6]; rfl) rfl ?_
                refine hf_iconst (pc := 112) dX9_signOf_112 ?_
                exact hf_Jret (pc := 113) dX9_signOf_113 (fun _ => rfl)
              · refine hf_Jit (fun hc7 => ?_) (fun hc7 => ?_)
                · refine hf_tsw (pc := 1) 114 113 hr dX9_signOf_1 (by omega) (by omega) (by rw [hc7]; rfl) rfl ?_
                  refine hf_bipush (pc := 114) dX9_signOf_114 (by decide) ?_
                  exact hf_Jret (pc := 116) dX9_signOf_116 (fun _ => rfl)
                · refine hf_Jit (fun hc8 => ?_) (fun hc8 => ?_)
                  · refine hf_tsw (pc := 1) 117 116 hr dX9_signOf_1 (by omega) (by omega) (by rw [hc8]; rfl) rfl ?_
                    refine hf_bipush (pc := 117) dX9_signOf_117 (by decide) ?_
                    exact hf_Jret (pc := 119) dX9_signOf_119 (fun _ => rfl)
                  · refine hf_Jit (fun hc9 => ?_) (fun hc9 => ?_)
                    · refine hf_tsw (pc := 1) 120 119 hr dX9_signOf_1 (by omega) (by omega) (by rw [hc9]; rfl) rfl ?_
                      refine hf_bipush (pc := 120) dX9_signOf_120 (by decide) ?_
                      exact hf_Jret (pc := 122) dX9_signOf_122 (fun _ => rfl)
                    · have hg : x0 < 40 ∨ 62 < x0 ∨ x0 = 44 ∨ x0 = 46 ∨ x0 = 48 ∨ x0 = 49 ∨ x0 = 50 ∨ x0 = 51 ∨ x0 = 52 ∨ x0 = 53 ∨ x0 = 54 ∨ x0 = 55 ∨ x0 = 56 ∨ x0 = 57 ∨ x0 = 58 := by omega
                      refine hf_tswg (pc := 1) 135 hr dX9_signOf_1 (by rcases hg with hg | hg | hg | hg | hg | hg | hg | hg | hg | hg | hg | hg | hg | hg | hg <;> first | exact Or.inl hg | exact Or.inr (Or.inl hg) | (rw [hg]; exact Or.inr (Or.inr rfl))) rfl ?_
                      refine hf_iconst (pc := 135) dX9_signOf_135 ?_
                      exact hf_Jret (pc := 136) dX9_signOf_136 (fun _ => rfl)
/-! Token.readSign()V -/
def M_X9_readSign : hf_D := (yX9_readSign, cX9_readSign, 3, none, 1, 20)
def f_X9_readSign_116 (x0 x2 : Int) : hf_M Int :=
  hf_bd (hf_gf 9 3 x0) (fun v118 => hf_cb x2 v118 (x2 = v118) (hf_ret 0) (hf_bd (hf_pf 9 3 x0 x2) (fun _ => hf_bd (hf_gf 9 2 x0) (fun v131 => hf_bd (hf_pf 9 2 x0 (v131 + 1)) (fun _ => hf_ret 0)))))
def f_X9_readSign_98 (x0 x1 x2 : Int) : hf_M Int :=
  hf_bd (hf_gf 9 3 x0) (fun v99 => hf_cb v99 26 (¬ v99 = 26) (f_X9_readSign_116 x0 x2) (hf_cb x1 61 (¬ x1 = 61) (f_X9_readSign_116 x0 x2) (f_X9_readSign_116 x0 25)))
def f_X9_readSign_77 (x0 x1 x2 : Int) : hf_M Int :=
  hf_bd (hf_gf 9 3 x0) (fun v78 => hf_cb v78 21 (¬ v78 = 21) (f_X9_readSign_98 x0 x1 x2) (hf_cb x1 62 (¬ x1 = 62) (f_X9_readSign_98 x0 x1 x2) (f_X9_readSign_116 x0 24)))
def f_X9_readSign_50 (x0 s0 : Int) : hf_M Int :=
  hf_bd (hf_gf 9 3 x0) (fun v52 => hf_bd (hf_gf 9 3 x0) (fun v57 => hf_cb v57 21 (¬ v57 = 21) (f_X9_readSign_77 x0 s0 v52) (hf_cb s0 61 (¬ s0 = 61) (f_X9_readSign_77 x0 s0 v52) (f_X9_readSign_116 x0 22))))
def f_X9_readSign (x0 : Int) : hf_M Int :=
  hf_bd (hf_gf 9 0 x0) (fun v2 => hf_bd (hf_gf 9 2 x0) (fun v6 => hf_bd (hf_al 20 v2 v6) (fun v9 => hf_bd (f_X9_signOf v9) (fun v10 => hf_bd (hf_pf 9 3 x0 v10) (fun _ => hf_bd (hf_gf 9 2 x0) (fun v18 => hf_bd (hf_pf 9 2 x0 (v18 + 1)) (fun _ => hf_bd (hf_gf 9 2 x0) (fun v27 => hf_bd (hf_gf 9 1 x0) (fun v31 => hf_cb v27 v31 (v31 ≤ v27) (f_X9_readSign_50 x0 0) (hf_bd (hf_gf 9 0 x0) (fun v38 => hf_bd (hf_gf 9 2 x0) (fun v42 => hf_bd (hf_al 20 v38 v42) (fun v45 => f_X9_readSign_50 x0 v45)))))))))))))
theorem cal_X9_readSign : hf_cv M_X9_readSign 9 0 := ⟨⟨ii_X9, kc_X9_readSign, by decide, by decide, by decide +kernel⟩, ki_X9_readSign, kv_X9_readSign, _, rfl, rfl⟩
set_option maxRecDepth 20000 in
theorem j_X9_readSign_116 (x0 x2 : Int) : hf_J M_X9_readSign 116 [(0, 2, x0), (2, 0, x2)] [] (f_X9_readSign_116 x0 x2) := by
  refine hf_ild_n (pc := 116) 1 rfl rfl dX9_readSign_116 ?_
  refine hf_ald_n (pc := 117) 0 rfl rfl dX9_readSign_117 ?_
  refine hf_getf (pc := 118) fl_X9_20 dX9_readSign_118 (fun v118 => ?_)
  refine hf_icmp_eq (pc := 121) 139 dX9_readSign_121 rfl ?_ ?_
  · exact hf_Jret (pc := 139) dX9_readSign_139 (fun _ => rfl)
  · refine hf_ald_n (pc := 124) 0 rfl rfl dX9_readSign_124 ?_
    refine hf_ild_n (pc := 125) 1 rfl rfl dX9_readSign_125 ?_
    refine hf_putf (pc := 126) fl_X9_20 trivial dX9_readSign_126 ?_
    refine hf_ald_n (pc := 129) 0 rfl rfl dX9_readSign_129 ?_
    refine hf_dup (pc := 130) (by decide) dX9_readSign_130 ?_
    refine hf_getf (pc := 131) fl_X9_17 dX9_readSign_131 (fun v131 => ?_)
    refine hf_iconst (pc := 134) dX9_readSign_134 ?_
    refine hf_iadd (pc := 135) dX9_readSign_135 ?_
    refine hf_putf (pc := 136) fl_X9_17 trivial dX9_readSign_136 ?_
    exact hf_Jret (pc := 139) dX9_readSign_139 (fun _ => rfl)
set_option maxRecDepth 20000 in
theorem j_X9_readSign_98 (x0 x1 x2 : Int) : hf_J M_X9_readSign 98 [(0, 2, x0), (1, 0, x1), (2, 0, x2)] [] (f_X9_readSign_98 x0 x1 x2) := by
  refine hf_ald_n (pc := 98) 0 rfl rfl dX9_readSign_98 ?_
  refine hf_getf (pc := 99) fl_X9_20 dX9_readSign_99 (fun v99 => ?_)
  refine hf_bipush (pc := 102) dX9_readSign_102 (by decide) ?_
  refine hf_icmp_ne (pc := 104) 116 dX9_readSign_104 rfl ?_ ?_
  · exact hf_sub [0, 2] rfl (j_X9_readSign_116 x0 x2)
  · refine hf_ild_n (pc := 107) 1 rfl rfl dX9_readSign_107 ?_
    refine hf_bipush (pc := 108) dX9_readSign_108 (by decide) ?_
    refine hf_icmp_ne (pc := 110) 116 dX9_readSign_110 rfl ?_ ?_
    · exact hf_sub [0, 2] rfl (j_X9_readSign_116 x0 x2)
    · refine hf_bipush (pc := 113) dX9_readSign_113 (by decide) ?_
      refine hf_ist_n (pc := 115) (lv' := [(2, 0, 25), (0, 2, x0), (1, 0, x1)]) rfl (by decide) rfl dX9_readSign_115 ?_
      exact hf_sub [1, 0] rfl (j_X9_readSign_116 x0 25)
set_option maxRecDepth 20000 in
theorem j_X9_readSign_77 (x0 x1 x2 : Int) : hf_J M_X9_readSign 77 [(0, 2, x0), (1, 0, x1), (2, 0, x2)] [] (f_X9_readSign_77 x0 x1 x2) := by
  refine hf_ald_n (pc := 77) 0 rfl rfl dX9_readSign_77 ?_
  refine hf_getf (pc := 78) fl_X9_20 dX9_readSign_78 (fun v78 => ?_)
  refine hf_bipush (pc := 81) dX9_readSign_81 (by decide) ?_
  refine hf_icmp_ne (pc := 83) 98 dX9_readSign_83 rfl ?_ ?_
  · exact hf_sub [0, 1, 2] rfl (j_X9_readSign_98 x0 x1 x2)
  · refine hf_ild_n (pc := 86) 1 rfl rfl dX9_readSign_86 ?_
    refine hf_bipush (pc := 87) dX9_readSign_87 (by decide) ?_
    refine hf_icmp_ne (pc := 89) 98 dX9_readSign_89 rfl ?_ ?_
    · exact hf_sub [0, 1, 2] rfl (j_X9_readSign_98 x0 x1 x2)
    · refine hf_bipush (pc := 92) dX9_readSign_92 (by decide) ?_
      refine hf_ist_n (pc := 94) (lv' := [(2, 0, 24), (0, 2, x0), (1, 0, x1)]) rfl (by decide) rfl dX9_readSign_94 ?_
      refine hf_goto (pc := 95) 116 dX9_readSign_95 rfl ?_
      exact hf_sub [1, 0] rfl (j_X9_readSign_116 x0 24)
set_option maxRecDepth 20000 in
theorem j_X9_readSign_50 (x0 s0 : Int) : hf_J M_X9_readSign 50 [(0, 2, x0)] [(0, s0)] (f_X9_readSign_50 x0 s0) := by
  refine hf_ist_n (pc := 50) (lv' := [(1, 0, s0), (0, 2, x0)]) rfl (by decide) rfl dX9_readSign_50 ?_
  refine hf_ald_n (pc := 51) 1 rfl rfl dX9_readSign_51 ?_
  refine hf_getf (pc := 52) fl_X9_20 dX9_readSign_52 (fun v52 => ?_)
  refine hf_ist_n (pc := 55) (lv' := [(2, 0, v52), (1, 0, s0), (0, 2, x0)]) rfl (by decide) rfl dX9_readSign_55 ?_
  refine hf_ald_n (pc := 56) 2 rfl rfl dX9_readSign_56 ?_
  refine hf_getf (pc := 57) fl_X9_20 dX9_readSign_57 (fun v57 => ?_)
  refine hf_bipush (pc := 60) dX9_readSign_60 (by decide) ?_
  refine hf_icmp_ne (pc := 62) 77 dX9_readSign_62 rfl ?_ ?_
  · exact hf_sub [2, 1, 0] rfl (j_X9_readSign_77 x0 s0 v52)
  · refine hf_ild_n (pc := 65) 1 rfl rfl dX9_readSign_65 ?_
    refine hf_bipush (pc := 66) dX9_readSign_66 (by decide) ?_
    refine hf_icmp_ne (pc := 68) 77 dX9_readSign_68 rfl ?_ ?_
    · exact hf_sub [2, 1, 0] rfl (j_X9_readSign_77 x0 s0 v52)
    · refine hf_bipush (pc := 71) dX9_readSign_71 (by decide) ?_
      refine hf_ist_n (pc := 73) (lv' := [(2, 0, 22), (1, 0, s0), (0, 2, x0)]) rfl (by decide) rfl dX9_readSign_73 ?_
      refine hf_goto (pc := 74) 116 dX9_readSign_74 rfl ?_
      exact hf_sub [2, 0] rfl (j_X9_readSign_116 x0 22)
set_option maxRecDepth 20000 in
theorem c_X9_readSign (x0 : Int) : hf_Met M_X9_readSign [2] [x0] (f_X9_readSign x0) := by
  refine hf_met rfl (by decide) (by decide) (by decide) ?_
  show hf_J M_X9_readSign 0 [(0, 2, x0)] [] _
  refine hf_ald_n (pc := 0) 0 rfl rfl dX9_readSign_0 ?_
  refine hf_ald_n (pc := 1) 0 rfl rfl dX9_readSign_1 ?_
  refine hf_getf (pc := 2) fl_X9_7 dX9_readSign_2 (fun v2 => ?_)
  refine hf_ald_n (pc := 5) 0 rfl rfl dX9_readSign_5 ?_
  refine hf_getf (pc := 6) fl_X9_17 dX9_readSign_6 (fun v6 => ?_)
  refine hf_iald (pc := 9) dX9_readSign_9 (fun v9 => ?_)
  refine hf_cS (pc := 10) (N := M_X9_signOf) (ts := [0]) (vs := [v9]) (st := [(2, x0)]) (fun r => [(0, r), (2, x0)]) (c_X9_signOf v9) cal_X9_signOf ml_X9_68 ⟨hf_le rfl, hf_le rfl⟩ (hf_le rfl) ⟨rfl, rfl⟩ rfl dX9_readSign_10 (fun _ => rfl) (fun v10 => ?_)
  refine hf_putf (pc := 13) fl_X9_20 trivial dX9_readSign_13 ?_
  refine hf_ald_n (pc := 16) 0 rfl rfl dX9_readSign_16 ?_
  refine hf_dup (pc := 17) (by decide) dX9_readSign_17 ?_
  refine hf_getf (pc := 18) fl_X9_17 dX9_readSign_18 (fun v18 => ?_)
  refine hf_iconst (pc := 21) dX9_readSign_21 ?_
  refine hf_iadd (pc := 22) dX9_readSign_22 ?_
  refine hf_putf (pc := 23) fl_X9_17 trivial dX9_readSign_23 ?_
  refine hf_ald_n (pc := 26) 0 rfl rfl dX9_readSign_26 ?_
  refine hf_getf (pc := 27) fl_X9_17 dX9_readSign_27 (fun v27 => ?_)
  refine hf_ald_n (pc := 30) 0 rfl rfl dX9_readSign_30 ?_
  refine hf_getf (pc := 31) fl_X9_13 dX9_readSign_31 (fun v31 => ?_)
  refine hf_icmp_ge (pc := 34) 49 dX9_readSign_34 rfl ?_ ?_
  · refine hf_iconst (pc := 49) dX9_readSign_49 ?_
    exact hf_sub [0] rfl (j_X9_readSign_50 x0 0)
  · refine hf_ald_n (pc := 37) 0 rfl rfl dX9_readSign_37 ?_
    refine hf_getf (pc := 38) fl_X9_7 dX9_readSign_38 (fun v38 => ?_)
    refine hf_ald_n (pc := 41) 0 rfl rfl dX9_readSign_41 ?_
    refine hf_getf (pc := 42) fl_X9_17 dX9_readSign_42 (fun v42 => ?_)
    refine hf_iald (pc := 45) dX9_readSign_45 (fun v45 => ?_)
    refine hf_goto (pc := 46) 50 dX9_readSign_46 rfl ?_
    exact hf_sub [0] rfl (j_X9_readSign_50 x0 v45)
/-! PlanReader.startExpression()V -/
def M_X5_startExpression : hf_D := (yX5_startExpression, cX5_startExpression, 1, none, 0, 0)
def f_X5_startExpression (x0 : Int) : hf_M Int :=
  hf_bd (hf_pf 5 3 x0 0) (fun _ => hf_bd (hf_pf 5 7 x0 0) (fun _ => hf_bd (hf_gf 5 8 x0) (fun v11 => hf_bd (hf_as 23 v11 0 0) (fun _ => hf_bd (hf_pf 5 9 x0 1) (fun _ => hf_bd (hf_pf 5 6 x0 2) (fun _ => hf_ret 0))))))
theorem cal_X5_startExpression : hf_cv M_X5_startExpression 5 0 := ⟨⟨ii_X5, kc_X5_startExpression, by decide, by decide, by decide +kernel⟩, ki_X5_startExpression, kv_X5_startExpression, _, rfl, rfl⟩
set_option maxRecDepth 20000 in
theorem c_X5_startExpression (x0 : Int) : hf_Met M_X5_startExpression [2] [x0] (f_X5_startExpression x0) := by
  refine hf_met rfl (by decide) (by decide) (by decide) ?_
  show hf_J M_X5_startExpression 0 [(0, 2, x0)] [] _
  refine hf_ald_n (pc := 0) 0 rfl rfl dX5_startExpression_0 ?_
  refine hf_iconst (pc := 1) dX5_startExpression_1 ?_
  refine hf_putf (pc := 2) fl_X5_29 trivial dX5_startExpression_2 ?_
  refine hf_ald_n (pc := 5) 0 rfl rfl dX5_startExpression_5 ?_
  refine hf_iconst (pc := 6) dX5_startExpression_6 ?_
  refine hf_putf (pc := 7) fl_X5_42 trivial dX5_startExpression_7 ?_
  refine hf_ald_n (pc := 10) 0 rfl rfl dX5_startExpression_10 ?_
  refine hf_getf (pc := 11) fl_X5_45 dX5_startExpression_11 (fun v11 => ?_)
  refine hf_iconst (pc := 14) dX5_startExpression_14 ?_
  refine hf_iconst (pc := 15) dX5_startExpression_15 ?_
  refine hf_zast (pc := 16) (Or.inl rfl) dX5_startExpression_16 ?_
  refine hf_ald_n (pc := 17) 0 rfl rfl dX5_startExpression_17 ?_
  refine hf_iconst (pc := 18) dX5_startExpression_18 ?_
  refine hf_putf (pc := 19) fl_X5_49 (Or.inr rfl) dX5_startExpression_19 ?_
  refine hf_ald_n (pc := 22) 0 rfl rfl dX5_startExpression_22 ?_
  refine hf_iconst (pc := 23) dX5_startExpression_23 ?_
  refine hf_putf (pc := 24) fl_X5_39 trivial dX5_startExpression_24 ?_
  exact hf_Jret (pc := 27) dX5_startExpression_27 (fun _ => rfl)
/-! PlanReader.startDeed(I)V -/
def M_X5_startDeed : hf_D := (yX5_startDeed, cX5_startDeed, 2, none, 1, 20)
def f_X5_startDeed (x0 x1 : Int) : hf_M Int :=
  hf_bd (hf_pf 5 10 x0 0) (fun _ => hf_bd (hf_gf 5 1 x0) (fun v6 => hf_bd (hf_gf 4 3 v6) (fun v9 => hf_bd (hf_gf 5 1 x0) (fun v13 => hf_bd (hf_gf 4 0 v13) (fun v16 => hf_bd (hf_gf 5 5 x0) (fun v20 => hf_bd (hf_as 20 v9 v16 v20) (fun _ => hf_cb x1 7 (¬ x1 = 7) (hf_bd (hf_gf 5 1 x0) (fun v39 => hf_bd (hf_gf 4 2 v39) (fun v42 => hf_bd (hf_gf 5 1 x0) (fun v46 => hf_bd (hf_gf 4 0 v46) (fun v49 => hf_bd (hf_as 20 v42 v49 3) (fun _ => hf_bd (hf_ob 5 x0 (f_X5_startExpression x0)) (fun _ => hf_ret 0))))))) (hf_bd (hf_pf 5 6 x0 1) (fun _ => hf_ret 0)))))))))
theorem cal_X5_startDeed : hf_cv M_X5_startDeed 5 1 := ⟨⟨ii_X5, kc_X5_startDeed, by decide, by decide, by decide +kernel⟩, ki_X5_startDeed, kv_X5_startDeed, _, rfl, rfl⟩
set_option maxRecDepth 20000 in
theorem c_X5_startDeed (x0 x1 : Int) : hf_Met M_X5_startDeed [2, 0] [x0, x1] (f_X5_startDeed x0 x1) := by
  refine hf_met rfl (by decide) (by decide) (by decide) ?_
  show hf_J M_X5_startDeed 0 [(0, 2, x0), (1, 0, x1)] [] _
  refine hf_ald_n (pc := 0) 0 rfl rfl dX5_startDeed_0 ?_
  refine hf_iconst (pc := 1) dX5_startDeed_1 ?_
  refine hf_putf (pc := 2) fl_X5_53 (Or.inl rfl) dX5_startDeed_2 ?_
  refine hf_ald_n (pc := 5) 0 rfl rfl dX5_startDeed_5 ?_
  refine hf_getf (pc := 6) fl_X5_21 dX5_startDeed_6 (fun v6 => ?_)
  refine hf_getf (pc := 9) fl_X5_104 dX5_startDeed_9 (fun v9 => ?_)
  refine hf_ald_n (pc := 12) 0 rfl rfl dX5_startDeed_12 ?_
  refine hf_getf (pc := 13) fl_X5_21 dX5_startDeed_13 (fun v13 => ?_)
  refine hf_getf (pc := 16) fl_X5_94 dX5_startDeed_16 (fun v16 => ?_)
  refine hf_ald_n (pc := 19) 0 rfl rfl dX5_startDeed_19 ?_
  refine hf_getf (pc := 20) fl_X5_36 dX5_startDeed_20 (fun v20 => ?_)
  refine hf_iast (pc := 23) dX5_startDeed_23 ?_
  refine hf_ild_n (pc := 24) 1 rfl rfl dX5_startDeed_24 ?_
  refine hf_bipush (pc := 25) dX5_startDeed_25 (by decide) ?_
  refine hf_icmp_ne (pc := 27) 38 dX5_startDeed_27 rfl ?_ ?_
  · refine hf_ald_n (pc := 38) 0 rfl rfl dX5_startDeed_38 ?_
    refine hf_getf (pc := 39) fl_X5_21 dX5_startDeed_39 (fun v39 => ?_)
    refine hf_getf (pc := 42) fl_X5_107 dX5_startDeed_42 (fun v42 => ?_)
    refine hf_ald_n (pc := 45) 0 rfl rfl dX5_startDeed_45 ?_
    refine hf_getf (pc := 46) fl_X5_21 dX5_startDeed_46 (fun v46 => ?_)
    refine hf_getf (pc := 49) fl_X5_94 dX5_startDeed_49 (fun v49 => ?_)
    refine hf_iconst (pc := 52) dX5_startDeed_52 ?_
    refine hf_iast (pc := 53) dX5_startDeed_53 ?_
    refine hf_ald_n (pc := 54) 0 rfl rfl dX5_startDeed_54 ?_
    refine hf_cV (pc := 55) (N := M_X5_startExpression) (ts := []) (vs := []) (st := []) (fun r => []) (c_X5_startExpression x0) cal_X5_startExpression ml_X5_97 ⟨hf_le rfl, hf_le rfl⟩ (hf_le rfl) ⟨rfl, rfl⟩ rfl dX5_startDeed_55 (fun _ => rfl) (fun _ => ?_)
    exact hf_Jret (pc := 58) dX5_startDeed_58 (fun _ => rfl)
  · refine hf_ald_n (pc := 30) 0 rfl rfl dX5_startDeed_30 ?_
    refine hf_iconst (pc := 31) dX5_startDeed_31 ?_
    refine hf_putf (pc := 32) fl_X5_39 trivial dX5_startDeed_32 ?_
    refine hf_goto (pc := 35) 58 dX5_startDeed_35 rfl ?_
    exact hf_Jret (pc := 58) dX5_startDeed_58 (fun _ => rfl)
/-! PlanReader.takeAtLine(I)I -/
def M_X5_takeAtLine : hf_D := (yX5_takeAtLine, cX5_takeAtLine, 2, some .int, 2, 41)
def f_X5_takeAtLine_26 (x0 x1 : Int) : hf_M Int :=
  hf_bd (hf_gf 5 1 x0) (fun v27 => hf_bd (hf_gf 4 0 v27) (fun v30 => hf_cb v30 12 (v30 < 12) (hf_cb x1 6 (¬ x1 = 6) (hf_bd (hf_ob 5 x0 (f_X5_startDeed x0 x1)) (fun _ => hf_ret 0)) (hf_bd (hf_pf 5 10 x0 1) (fun _ => hf_bd (hf_ob 5 x0 (f_X5_startExpression x0)) (fun _ => hf_ret 0)))) (hf_ret 2)))
def f_X5_takeAtLine (x0 x1 : Int) : hf_M Int :=
  hf_cz x1 (¬ x1 = 0) (hf_cb x1 6 (x1 = 6) (f_X5_takeAtLine_26 x0 x1) (hf_cb x1 7 (x1 = 7) (f_X5_takeAtLine_26 x0 x1) (hf_cb x1 8 (x1 = 8) (f_X5_takeAtLine_26 x0 x1) (hf_ret 1)))) (hf_ret 0)
theorem cal_X5_takeAtLine : hf_cv M_X5_takeAtLine 5 1 := ⟨⟨ii_X5, kc_X5_takeAtLine, by decide, by decide, by decide +kernel⟩, ki_X5_takeAtLine, kv_X5_takeAtLine, _, rfl, rfl⟩
set_option maxRecDepth 20000 in
theorem j_X5_takeAtLine_26 (x0 x1 : Int) : hf_J M_X5_takeAtLine 26 [(0, 2, x0), (1, 0, x1)] [] (f_X5_takeAtLine_26 x0 x1) := by
  refine hf_ald_n (pc := 26) 0 rfl rfl dX5_takeAtLine_26 ?_
  refine hf_getf (pc := 27) fl_X5_21 dX5_takeAtLine_27 (fun v27 => ?_)
  refine hf_getf (pc := 30) fl_X5_94 dX5_takeAtLine_30 (fun v30 => ?_)
  refine hf_bipush (pc := 33) dX5_takeAtLine_33 (by decide) ?_
  refine hf_icmp_lt (pc := 35) 40 dX5_takeAtLine_35 rfl ?_ ?_
  · refine hf_ild_n (pc := 40) 1 rfl rfl dX5_takeAtLine_40 ?_
    refine hf_bipush (pc := 41) dX5_takeAtLine_41 (by decide) ?_
    refine hf_icmp_ne (pc := 43) 58 dX5_takeAtLine_43 rfl ?_ ?_
    · refine hf_ald_n (pc := 58) 0 rfl rfl dX5_takeAtLine_58 ?_
      refine hf_ild_n (pc := 59) 1 rfl rfl dX5_takeAtLine_59 ?_
      refine hf_cV (pc := 60) (N := M_X5_startDeed) (ts := [0]) (vs := [x1]) (st := []) (fun r => []) (c_X5_startDeed x0 x1) cal_X5_startDeed ml_X5_100 ⟨hf_le rfl, hf_le rfl⟩ (hf_le rfl) ⟨rfl, rfl⟩ rfl dX5_takeAtLine_60 (fun _ => rfl) (fun _ => ?_)
      refine hf_iconst (pc := 63) dX5_takeAtLine_63 ?_
      exact hf_Jret (pc := 64) dX5_takeAtLine_64 (fun _ => rfl)
    · refine hf_ald_n (pc := 46) 0 rfl rfl dX5_takeAtLine_46 ?_
      refine hf_iconst (pc := 47) dX5_takeAtLine_47 ?_
      refine hf_putf (pc := 48) fl_X5_53 (Or.inr rfl) dX5_takeAtLine_48 ?_
      refine hf_ald_n (pc := 51) 0 rfl rfl dX5_takeAtLine_51 ?_
      refine hf_cV (pc := 52) (N := M_X5_startExpression) (ts := []) (vs := []) (st := []) (fun r => []) (c_X5_startExpression x0) cal_X5_startExpression ml_X5_97 ⟨hf_le rfl, hf_le rfl⟩ (hf_le rfl) ⟨rfl, rfl⟩ rfl dX5_takeAtLine_52 (fun _ => rfl) (fun _ => ?_)
      refine hf_goto (pc := 55) 63 dX5_takeAtLine_55 rfl ?_
      refine hf_iconst (pc := 63) dX5_takeAtLine_63 ?_
      exact hf_Jret (pc := 64) dX5_takeAtLine_64 (fun _ => rfl)
  · refine hf_iconst (pc := 38) dX5_takeAtLine_38 ?_
    exact hf_Jret (pc := 39) dX5_takeAtLine_39 (fun _ => rfl)
set_option maxRecDepth 20000 in
theorem c_X5_takeAtLine (x0 x1 : Int) : hf_Met M_X5_takeAtLine [2, 0] [x0, x1] (f_X5_takeAtLine x0 x1) := by
  refine hf_met rfl (by decide) (by decide) (by decide) ?_
  show hf_J M_X5_takeAtLine 0 [(0, 2, x0), (1, 0, x1)] [] _
  refine hf_ild_n (pc := 0) 1 rfl rfl dX5_takeAtLine_0 ?_
  refine hf_if_ne (pc := 1) 6 dX5_takeAtLine_1 rfl ?_ ?_
  · refine hf_ild_n (pc := 6) 1 rfl rfl dX5_takeAtLine_6 ?_
    refine hf_bipush (pc := 7) dX5_takeAtLine_7 (by decide) ?_
    refine hf_icmp_eq (pc := 9) 26 dX5_takeAtLine_9 rfl ?_ ?_
    · exact hf_sub [0, 1] rfl (j_X5_takeAtLine_26 x0 x1)
    · refine hf_ild_n (pc := 12) 1 rfl rfl dX5_takeAtLine_12 ?_
      refine hf_bipush (pc := 13) dX5_takeAtLine_13 (by decide) ?_
      refine hf_icmp_eq (pc := 15) 26 dX5_takeAtLine_15 rfl ?_ ?_
      · exact hf_sub [0, 1] rfl (j_X5_takeAtLine_26 x0 x1)
      · refine hf_ild_n (pc := 18) 1 rfl rfl dX5_takeAtLine_18 ?_
        refine hf_bipush (pc := 19) dX5_takeAtLine_19 (by decide) ?_
        refine hf_icmp_eq (pc := 21) 26 dX5_takeAtLine_21 rfl ?_ ?_
        · exact hf_sub [0, 1] rfl (j_X5_takeAtLine_26 x0 x1)
        · refine hf_iconst (pc := 24) dX5_takeAtLine_24 ?_
          exact hf_Jret (pc := 25) dX5_takeAtLine_25 (fun _ => rfl)
  · refine hf_iconst (pc := 4) dX5_takeAtLine_4 ?_
    exact hf_Jret (pc := 5) dX5_takeAtLine_5 (fun _ => rfl)
/-! PlanReader.takeKind(I)I -/
def M_X5_takeKind : hf_D := (yX5_takeKind, cX5_takeKind, 2, some .int, 1, 20)
def f_X5_takeKind (x0 x1 : Int) : hf_M Int :=
  hf_cb x1 2 (x1 = 2) (hf_bd (hf_gf 5 0 x0) (fun v8 => hf_bd (hf_gf 9 5 v8) (fun v11 => hf_cb v11 3 (v11 < 3) (hf_bd (hf_gf 5 1 x0) (fun v21 => hf_bd (hf_gf 4 2 v21) (fun v24 => hf_bd (hf_gf 5 1 x0) (fun v28 => hf_bd (hf_gf 4 0 v28) (fun v31 => hf_bd (hf_gf 5 0 x0) (fun v35 => hf_bd (hf_gf 9 5 v35) (fun v38 => hf_bd (hf_as 20 v24 v31 v38) (fun _ => hf_bd (hf_ob 5 x0 (f_X5_startExpression x0)) (fun _ => hf_ret 0))))))))) (hf_ret 2)))) (hf_ret 1)
theorem cal_X5_takeKind : hf_cv M_X5_takeKind 5 1 := ⟨⟨ii_X5, kc_X5_takeKind, by decide, by decide, by decide +kernel⟩, ki_X5_takeKind, kv_X5_takeKind, _, rfl, rfl⟩
set_option maxRecDepth 20000 in
theorem c_X5_takeKind (x0 x1 : Int) : hf_Met M_X5_takeKind [2, 0] [x0, x1] (f_X5_takeKind x0 x1) := by
  refine hf_met rfl (by decide) (by decide) (by decide) ?_
  show hf_J M_X5_takeKind 0 [(0, 2, x0), (1, 0, x1)] [] _
  refine hf_ild_n (pc := 0) 1 rfl rfl dX5_takeKind_0 ?_
  refine hf_iconst (pc := 1) dX5_takeKind_1 ?_
  refine hf_icmp_eq (pc := 2) 7 dX5_takeKind_2 rfl ?_ ?_
  · refine hf_ald_n (pc := 7) 0 rfl rfl dX5_takeKind_7 ?_
    refine hf_getf (pc := 8) fl_X5_12 dX5_takeKind_8 (fun v8 => ?_)
    refine hf_getf (pc := 11) fl_X5_110 dX5_takeKind_11 (fun v11 => ?_)
    refine hf_iconst (pc := 14) dX5_takeKind_14 ?_
    refine hf_icmp_lt (pc := 15) 20 dX5_takeKind_15 rfl ?_ ?_
    · refine hf_ald_n (pc := 20) 0 rfl rfl dX5_takeKind_20 ?_
      refine hf_getf (pc := 21) fl_X5_21 dX5_takeKind_21 (fun v21 => ?_)
      refine hf_getf (pc := 24) fl_X5_107 dX5_takeKind_24 (fun v24 => ?_)
      refine hf_ald_n (pc := 27) 0 rfl rfl dX5_takeKind_27 ?_
      refine hf_getf (pc := 28) fl_X5_21 dX5_takeKind_28 (fun v28 => ?_)
      refine hf_getf (pc := 31) fl_X5_94 dX5_takeKind_31 (fun v31 => ?_)
      refine hf_ald_n (pc := 34) 0 rfl rfl dX5_takeKind_34 ?_
      refine hf_getf (pc := 35) fl_X5_12 dX5_takeKind_35 (fun v35 => ?_)
      refine hf_getf (pc := 38) fl_X5_110 dX5_takeKind_38 (fun v38 => ?_)
      refine hf_iast (pc := 41) dX5_takeKind_41 ?_
      refine hf_ald_n (pc := 42) 0 rfl rfl dX5_takeKind_42 ?_
      refine hf_cV (pc := 43) (N := M_X5_startExpression) (ts := []) (vs := []) (st := []) (fun r => []) (c_X5_startExpression x0) cal_X5_startExpression ml_X5_97 ⟨hf_le rfl, hf_le rfl⟩ (hf_le rfl) ⟨rfl, rfl⟩ rfl dX5_takeKind_43 (fun _ => rfl) (fun _ => ?_)
      refine hf_iconst (pc := 46) dX5_takeKind_46 ?_
      exact hf_Jret (pc := 47) dX5_takeKind_47 (fun _ => rfl)
    · refine hf_iconst (pc := 18) dX5_takeKind_18 ?_
      exact hf_Jret (pc := 19) dX5_takeKind_19 (fun _ => rfl)
  · refine hf_iconst (pc := 5) dX5_takeKind_5 ?_
    exact hf_Jret (pc := 6) dX5_takeKind_6 (fun _ => rfl)
/-! PlanReader.hold(I)V -/
def M_X5_hold : hf_D := (yX5_hold, cX5_hold, 2, none, 0, 0)
def f_X5_hold (x0 x1 : Int) : hf_M Int :=
  hf_bd (hf_gf 5 3 x0) (fun v1 => hf_bd (hf_gf 5 2 x0) (fun v5 => hf_bd (hf_an 20 v5) (fun v8 => hf_cb v1 v8 (v8 ≤ v1) (hf_ret 0) (hf_bd (hf_gf 5 2 x0) (fun v13 => hf_bd (hf_gf 5 3 x0) (fun v17 => hf_bd (hf_as 20 v13 v17 x1) (fun _ => hf_bd (hf_gf 5 3 x0) (fun v24 => hf_bd (hf_pf 5 3 x0 (v24 + 1)) (fun _ => hf_ret 0)))))))))
theorem cal_X5_hold : hf_cv M_X5_hold 5 1 := ⟨⟨ii_X5, kc_X5_hold, by decide, by decide, by decide +kernel⟩, ki_X5_hold, kv_X5_hold, _, rfl, rfl⟩
set_option maxRecDepth 20000 in
theorem c_X5_hold (x0 x1 : Int) : hf_Met M_X5_hold [2, 0] [x0, x1] (f_X5_hold x0 x1) := by
  refine hf_met rfl (by decide) (by decide) (by decide) ?_
  show hf_J M_X5_hold 0 [(0, 2, x0), (1, 0, x1)] [] _
  refine hf_ald_n (pc := 0) 0 rfl rfl dX5_hold_0 ?_
  refine hf_getf (pc := 1) fl_X5_29 dX5_hold_1 (fun v1 => ?_)
  refine hf_ald_n (pc := 4) 0 rfl rfl dX5_hold_4 ?_
  refine hf_getf (pc := 5) fl_X5_25 dX5_hold_5 (fun v5 => ?_)
  refine hf_alen (pc := 8) 20 (by decide) (by decide) dX5_hold_8 (fun v8 => ?_)
  refine hf_icmp_ge (pc := 9) 32 dX5_hold_9 rfl ?_ ?_
  · exact hf_Jret (pc := 32) dX5_hold_32 (fun _ => rfl)
  · refine hf_ald_n (pc := 12) 0 rfl rfl dX5_hold_12 ?_
    refine hf_getf (pc := 13) fl_X5_25 dX5_hold_13 (fun v13 => ?_)
    refine hf_ald_n (pc := 16) 0 rfl rfl dX5_hold_16 ?_
    refine hf_getf (pc := 17) fl_X5_29 dX5_hold_17 (fun v17 => ?_)
    refine hf_ild_n (pc := 20) 1 rfl rfl dX5_hold_20 ?_
    refine hf_iast (pc := 21) dX5_hold_21 ?_
    refine hf_ald_n (pc := 22) 0 rfl rfl dX5_hold_22 ?_
    refine hf_dup (pc := 23) (by decide) dX5_hold_23 ?_
    refine hf_getf (pc := 24) fl_X5_29 dX5_hold_24 (fun v24 => ?_)
    refine hf_iconst (pc := 27) dX5_hold_27 ?_
    refine hf_iadd (pc := 28) dX5_hold_28 ?_
    refine hf_putf (pc := 29) fl_X5_29 trivial dX5_hold_29 ?_
    exact hf_Jret (pc := 32) dX5_hold_32 (fun _ => rfl)
/-! PlanReader.takeOpen()I -/
def M_X5_takeOpen : hf_D := (yX5_takeOpen, cX5_takeOpen, 1, some .int, 1, 21)
def f_X5_takeOpen (x0 : Int) : hf_M Int :=
  hf_bd (hf_gf 5 7 x0) (fun v1 => hf_cb v1 8 (v1 < 8) (hf_bd (hf_gf 5 7 x0) (fun v13 => hf_bd (hf_pf 5 7 x0 (v13 + 1)) (fun _ => hf_bd (hf_gf 5 8 x0) (fun v22 => hf_bd (hf_gf 5 7 x0) (fun v26 => hf_bd (hf_as 23 v22 v26 0) (fun _ => hf_bd (hf_pf 5 9 x0 1) (fun _ => hf_bd (hf_ob 5 x0 (f_X5_hold x0 3)) (fun _ => hf_ret 0)))))))) (hf_ret 2))
theorem cal_X5_takeOpen : hf_cv M_X5_takeOpen 5 0 := ⟨⟨ii_X5, kc_X5_takeOpen, by decide, by decide, by decide +kernel⟩, ki_X5_takeOpen, kv_X5_takeOpen, _, rfl, rfl⟩
set_option maxRecDepth 20000 in
theorem c_X5_takeOpen (x0 : Int) : hf_Met M_X5_takeOpen [2] [x0] (f_X5_takeOpen x0) := by
  refine hf_met rfl (by decide) (by decide) (by decide) ?_
  show hf_J M_X5_takeOpen 0 [(0, 2, x0)] [] _
  refine hf_ald_n (pc := 0) 0 rfl rfl dX5_takeOpen_0 ?_
  refine hf_getf (pc := 1) fl_X5_42 dX5_takeOpen_1 (fun v1 => ?_)
  refine hf_bipush (pc := 4) dX5_takeOpen_4 (by decide) ?_
  refine hf_icmp_lt (pc := 6) 11 dX5_takeOpen_6 rfl ?_ ?_
  · refine hf_ald_n (pc := 11) 0 rfl rfl dX5_takeOpen_11 ?_
    refine hf_dup (pc := 12) (by decide) dX5_takeOpen_12 ?_
    refine hf_getf (pc := 13) fl_X5_42 dX5_takeOpen_13 (fun v13 => ?_)
    refine hf_iconst (pc := 16) dX5_takeOpen_16 ?_
    refine hf_iadd (pc := 17) dX5_takeOpen_17 ?_
    refine hf_putf (pc := 18) fl_X5_42 trivial dX5_takeOpen_18 ?_
    refine hf_ald_n (pc := 21) 0 rfl rfl dX5_takeOpen_21 ?_
    refine hf_getf (pc := 22) fl_X5_45 dX5_takeOpen_22 (fun v22 => ?_)
    refine hf_ald_n (pc := 25) 0 rfl rfl dX5_takeOpen_25 ?_
    refine hf_getf (pc := 26) fl_X5_42 dX5_takeOpen_26 (fun v26 => ?_)
    refine hf_iconst (pc := 29) dX5_takeOpen_29 ?_
    refine hf_zast (pc := 30) (Or.inl rfl) dX5_takeOpen_30 ?_
    refine hf_ald_n (pc := 31) 0 rfl rfl dX5_takeOpen_31 ?_
    refine hf_iconst (pc := 32) dX5_takeOpen_32 ?_
    refine hf_putf (pc := 33) fl_X5_49 (Or.inr rfl) dX5_takeOpen_33 ?_
    refine hf_ald_n (pc := 36) 0 rfl rfl dX5_takeOpen_36 ?_
    refine hf_iconst (pc := 37) dX5_takeOpen_37 ?_
    refine hf_cV (pc := 38) (N := M_X5_hold) (ts := [0]) (vs := [3]) (st := []) (fun r => []) (c_X5_hold x0 3) cal_X5_hold ml_X5_127 ⟨hf_le rfl, hf_le rfl⟩ (hf_le rfl) ⟨rfl, rfl⟩ rfl dX5_takeOpen_38 (fun _ => rfl) (fun _ => ?_)
    refine hf_iconst (pc := 41) dX5_takeOpen_41 ?_
    exact hf_Jret (pc := 42) dX5_takeOpen_42 (fun _ => rfl)
  · refine hf_iconst (pc := 9) dX5_takeOpen_9 ?_
    exact hf_Jret (pc := 10) dX5_takeOpen_10 (fun _ => rfl)
/-! Token.isComparison(I)Z -/
def M_X9_isComparison : hf_D := (yX9_isComparison, cX9_isComparison, 1, some .boolean, 0, 0)
def f_X9_isComparison (x0 : Int) : hf_M Int :=
  hf_cb x0 21 (x0 < 21) (hf_ret 0) (hf_cb x0 26 (26 < x0) (hf_ret 0) (hf_ret 1))
theorem cal_X9_isComparison : hf_csx M_X9_isComparison 1 := ⟨⟨ii_X9, kc_X9_isComparison, by decide, by decide, by decide +kernel⟩, ks_X9_isComparison⟩
set_option maxRecDepth 20000 in
theorem c_X9_isComparison (x0 : Int) : hf_Met M_X9_isComparison [0] [x0] (f_X9_isComparison x0) := by
  refine hf_met rfl (by decide) (by decide) (by decide) ?_
  show hf_J M_X9_isComparison 0 [(0, 0, x0)] [] _
  refine hf_ild_n (pc := 0) 0 rfl rfl dX9_isComparison_0 ?_
  refine hf_bipush (pc := 1) dX9_isComparison_1 (by decide) ?_
  refine hf_icmp_lt (pc := 3) 16 dX9_isComparison_3 rfl ?_ ?_
  · refine hf_iconst (pc := 16) dX9_isComparison_16 ?_
    exact hf_Jret (pc := 17) (r := 0) ⟨dX9_isComparison_17, Or.inl rfl⟩ (fun _ => rfl)
  · refine hf_ild_n (pc := 6) 0 rfl rfl dX9_isComparison_6 ?_
    refine hf_bipush (pc := 7) dX9_isComparison_7 (by decide) ?_
    refine hf_icmp_gt (pc := 9) 16 dX9_isComparison_9 rfl ?_ ?_
    · refine hf_iconst (pc := 16) dX9_isComparison_16 ?_
      exact hf_Jret (pc := 17) (r := 0) ⟨dX9_isComparison_17, Or.inl rfl⟩ (fun _ => rfl)
    · refine hf_iconst (pc := 12) dX9_isComparison_12 ?_
      refine hf_goto (pc := 13) 17 dX9_isComparison_13 rfl ?_
      exact hf_Jret (pc := 17) (r := 1) ⟨dX9_isComparison_17, Or.inr rfl⟩ (fun _ => rfl)
/-! Token.bindingOf(I)I -/
def M_X9_bindingOf : hf_D := (yX9_bindingOf, cX9_bindingOf, 1, some .int, 1, 20)
def f_X9_bindingOf (x0 : Int) : hf_M Int :=
  hf_cb x0 10 (¬ x0 = 10) (hf_cb x0 11 (¬ x0 = 11) (hf_cb x0 9 (¬ x0 = 9) (hf_bd (f_X9_isComparison x0) (fun v25 => hf_cz v25 (v25 = 0) (hf_cb x0 27 (x0 = 27) (hf_ret 5) (hf_cb x0 28 (¬ x0 = 28) (hf_cb x0 29 (x0 = 29) (hf_ret 6) (hf_cb x0 30 (¬ x0 = 30) (hf_ret 0) (hf_ret 6))) (hf_ret 5))) (hf_ret 4))) (hf_ret 3)) (hf_ret 2)) (hf_ret 1)
theorem cal_X9_bindingOf : hf_csx M_X9_bindingOf 1 := ⟨⟨ii_X9, kc_X9_bindingOf, by decide, by decide, by decide +kernel⟩, ks_X9_bindingOf⟩
set_option maxRecDepth 20000 in
theorem c_X9_bindingOf (x0 : Int) : hf_Met M_X9_bindingOf [0] [x0] (f_X9_bindingOf x0) := by
  refine hf_met rfl (by decide) (by decide) (by decide) ?_
  show hf_J M_X9_bindingOf 0 [(0, 0, x0)] [] _
  refine hf_ild_n (pc := 0) 0 rfl rfl dX9_bindingOf_0 ?_
  refine hf_bipush (pc := 1) dX9_bindingOf_1 (by decide) ?_
  refine hf_icmp_ne (pc := 3) 8 dX9_bindingOf_3 rfl ?_ ?_
  · refine hf_ild_n (pc := 8) 0 rfl rfl dX9_bindingOf_8 ?_
    refine hf_bipush (pc := 9) dX9_bindingOf_9 (by decide) ?_
    refine hf_icmp_ne (pc := 11) 16 dX9_bindingOf_11 rfl ?_ ?_
    · refine hf_ild_n (pc := 16) 0 rfl rfl dX9_bindingOf_16 ?_
      refine hf_bipush (pc := 17) dX9_bindingOf_17 (by decide) ?_
      refine hf_icmp_ne (pc := 19) 24 dX9_bindingOf_19 rfl ?_ ?_
      · refine hf_ild_n (pc := 24) 0 rfl rfl dX9_bindingOf_24 ?_
        refine hf_cS (pc := 25) (N := M_X9_isComparison) (ts := [0]) (vs := [x0]) (st := []) (fun r => [(0, r)]) (c_X9_isComparison x0) cal_X9_isComparison ml_X9_72 ⟨hf_le rfl, hf_le rfl⟩ (hf_le rfl) ⟨rfl, rfl⟩ rfl dX9_bindingOf_25 (fun _ => rfl) (fun v25 => ?_)
        refine hf_if_eq (pc := 28) 33 dX9_bindingOf_28 rfl ?_ ?_
        · refine hf_ild_n (pc := 33) 0 rfl rfl dX9_bindingOf_33 ?_
          refine hf_bipush (pc := 34) dX9_bindingOf_34 (by decide) ?_
          refine hf_icmp_eq (pc := 36) 45 dX9_bindingOf_36 rfl ?_ ?_
          · refine hf_iconst (pc := 45) dX9_bindingOf_45 ?_
            exact hf_Jret (pc := 46) dX9_bindingOf_46 (fun _ => rfl)
          · refine hf_ild_n (pc := 39) 0 rfl rfl dX9_bindingOf_39 ?_
            refine hf_bipush (pc := 40) dX9_bindingOf_40 (by decide) ?_
            refine hf_icmp_ne (pc := 42) 47 dX9_bindingOf_42 rfl ?_ ?_
            · refine hf_ild_n (pc := 47) 0 rfl rfl dX9_bindingOf_47 ?_
              refine hf_bipush (pc := 48) dX9_bindingOf_48 (by decide) ?_
              refine hf_icmp_eq (pc := 50) 59 dX9_bindingOf_50 rfl ?_ ?_
              · refine hf_bipush (pc := 59) dX9_bindingOf_59 (by decide) ?_
                refine hf_goto (pc := 61) 65 dX9_bindingOf_61 rfl ?_
                exact hf_Jret (pc := 65) dX9_bindingOf_65 (fun _ => rfl)
              · refine hf_ild_n (pc := 53) 0 rfl rfl dX9_bindingOf_53 ?_
                refine hf_bipush (pc := 54) dX9_bindingOf_54 (by decide) ?_
                refine hf_icmp_ne (pc := 56) 64 dX9_bindingOf_56 rfl ?_ ?_
                · refine hf_iconst (pc := 64) dX9_bindingOf_64 ?_
                  exact hf_Jret (pc := 65) dX9_bindingOf_65 (fun _ => rfl)
                · refine hf_bipush (pc := 59) dX9_bindingOf_59 (by decide) ?_
                  refine hf_goto (pc := 61) 65 dX9_bindingOf_61 rfl ?_
                  exact hf_Jret (pc := 65) dX9_bindingOf_65 (fun _ => rfl)
            · refine hf_iconst (pc := 45) dX9_bindingOf_45 ?_
              exact hf_Jret (pc := 46) dX9_bindingOf_46 (fun _ => rfl)
        · refine hf_iconst (pc := 31) dX9_bindingOf_31 ?_
          exact hf_Jret (pc := 32) dX9_bindingOf_32 (fun _ => rfl)
      · refine hf_iconst (pc := 22) dX9_bindingOf_22 ?_
        exact hf_Jret (pc := 23) dX9_bindingOf_23 (fun _ => rfl)
    · refine hf_iconst (pc := 14) dX9_bindingOf_14 ?_
      exact hf_Jret (pc := 15) dX9_bindingOf_15 (fun _ => rfl)
  · refine hf_iconst (pc := 6) dX9_bindingOf_6 ?_
    exact hf_Jret (pc := 7) dX9_bindingOf_7 (fun _ => rfl)
/-! PlanReader.write(I)V -/
def M_X5_write : hf_D := (yX5_write, cX5_write, 2, none, 0, 0)
def f_X5_write (x0 x1 : Int) : hf_M Int :=
  hf_bd (hf_gf 5 5 x0) (fun v1 => hf_cb v1 64 (64 ≤ v1) (hf_ret 0) (hf_bd (hf_gf 5 1 x0) (fun v10 => hf_bd (hf_gf 4 5 v10) (fun v13 => hf_bd (hf_gf 5 5 x0) (fun v17 => hf_bd (hf_as 20 v13 v17 x1) (fun _ => hf_bd (hf_gf 5 5 x0) (fun v24 => hf_bd (hf_pf 5 5 x0 (v24 + 1)) (fun _ => hf_ret 0))))))))
theorem cal_X5_write : hf_cv M_X5_write 5 1 := ⟨⟨ii_X5, kc_X5_write, by decide, by decide, by decide +kernel⟩, ki_X5_write, kv_X5_write, _, rfl, rfl⟩
set_option maxRecDepth 20000 in
theorem c_X5_write (x0 x1 : Int) : hf_Met M_X5_write [2, 0] [x0, x1] (f_X5_write x0 x1) := by
  refine hf_met rfl (by decide) (by decide) (by decide) ?_
  show hf_J M_X5_write 0 [(0, 2, x0), (1, 0, x1)] [] _
  refine hf_ald_n (pc := 0) 0 rfl rfl dX5_write_0 ?_
  refine hf_getf (pc := 1) fl_X5_36 dX5_write_1 (fun v1 => ?_)
  refine hf_bipush (pc := 4) dX5_write_4 (by decide) ?_
  refine hf_icmp_ge (pc := 6) 32 dX5_write_6 rfl ?_ ?_
  · exact hf_Jret (pc := 32) dX5_write_32 (fun _ => rfl)
  · refine hf_ald_n (pc := 9) 0 rfl rfl dX5_write_9 ?_
    refine hf_getf (pc := 10) fl_X5_21 dX5_write_10 (fun v10 => ?_)
    refine hf_getf (pc := 13) fl_X5_145 dX5_write_13 (fun v13 => ?_)
    refine hf_ald_n (pc := 16) 0 rfl rfl dX5_write_16 ?_
    refine hf_getf (pc := 17) fl_X5_36 dX5_write_17 (fun v17 => ?_)
    refine hf_ild_n (pc := 20) 1 rfl rfl dX5_write_20 ?_
    refine hf_iast (pc := 21) dX5_write_21 ?_
    refine hf_ald_n (pc := 22) 0 rfl rfl dX5_write_22 ?_
    refine hf_dup (pc := 23) (by decide) dX5_write_23 ?_
    refine hf_getf (pc := 24) fl_X5_36 dX5_write_24 (fun v24 => ?_)
    refine hf_iconst (pc := 27) dX5_write_27 ?_
    refine hf_iadd (pc := 28) dX5_write_28 ?_
    refine hf_putf (pc := 29) fl_X5_36 trivial dX5_write_29 ?_
    exact hf_Jret (pc := 32) dX5_write_32 (fun _ => rfl)
/-! PlanReader.release(I)V -/
def M_X5_release : hf_D := (yX5_release, cX5_release, 2, none, 2, 40)
def B_X5_release_0 (x0 x1 : Int) (rec_0 : Unit → hf_M Int) : hf_M Int :=
  hf_bd (hf_gf 5 3 x0) (fun v1 => hf_cz v1 (v1 ≤ 0) (hf_ret 0) (hf_bd (hf_gf 5 2 x0) (fun v8 => hf_bd (hf_gf 5 3 x0) (fun v12 => hf_bd (hf_al 20 v8 (v12 - 1)) (fun v17 => hf_bd (f_X9_bindingOf v17) (fun v18 => hf_cb v18 x1 (v18 < x1) (hf_ret 0) (hf_bd (hf_gf 5 3 x0) (fun v27 => hf_bd (hf_pf 5 3 x0 (v27 - 1)) (fun _ => hf_bd (hf_gf 5 2 x0) (fun v40 => hf_bd (hf_gf 5 3 x0) (fun v44 => hf_bd (hf_al 20 v40 v44) (fun v47 => hf_bd (hf_ob 5 x0 (f_X5_write x0 (1000 + v47))) (fun _ => rec_0 ())))))))))))))
def f_X5_release_0 (x0 x1 : Int) : hf_M Int := hf_fx (fun rec s => B_X5_release_0 x0 x1 rec) hf_N ()
def f_X5_release (x0 x1 : Int) : hf_M Int :=
  f_X5_release_0 x0 x1
theorem cal_X5_release : hf_cv M_X5_release 5 1 := ⟨⟨ii_X5, kc_X5_release, by decide, by decide, by decide +kernel⟩, ki_X5_release, kv_X5_release, _, rfl, rfl⟩
set_option maxRecDepth 20000 in
theorem jb_X5_release_0 (x0 x1 : Int) (rec_0 : Unit → hf_M Int) (hrec_0 : ∀ s : Unit, hf_J M_X5_release 0 [(0, 2, x0), (1, 0, x1)] [] (rec_0 s)) : hf_J M_X5_release 0 [(0, 2, x0), (1, 0, x1)] [] (B_X5_release_0 x0 x1 rec_0) := by
  refine hf_ald_n (pc := 0) 0 rfl rfl dX5_release_0 ?_
  refine hf_getf (pc := 1) fl_X5_29 dX5_release_1 (fun v1 => ?_)
  refine hf_if_le (pc := 4) 55 dX5_release_4 rfl ?_ ?_
  · exact hf_Jret (pc := 55) dX5_release_55 (fun _ => rfl)
  · refine hf_ald_n (pc := 7) 0 rfl rfl dX5_release_7 ?_
    refine hf_getf (pc := 8) fl_X5_25 dX5_release_8 (fun v8 => ?_)
    refine hf_ald_n (pc := 11) 0 rfl rfl dX5_release_11 ?_
    refine hf_getf (pc := 12) fl_X5_29 dX5_release_12 (fun v12 => ?_)
    refine hf_iconst (pc := 15) dX5_release_15 ?_
    refine hf_isub (pc := 16) dX5_release_16 ?_
    refine hf_iald (pc := 17) dX5_release_17 (fun v17 => ?_)
    refine hf_cS (pc := 18) (N := M_X9_bindingOf) (ts := [0]) (vs := [v17]) (st := []) (fun r => [(0, r)]) (c_X9_bindingOf v17) cal_X9_bindingOf ml_X5_136 ⟨hf_le rfl, hf_le rfl⟩ (hf_le rfl) ⟨rfl, rfl⟩ rfl dX5_release_18 (fun _ => rfl) (fun v18 => ?_)
    refine hf_ild_n (pc := 21) 1 rfl rfl dX5_release_21 ?_
    refine hf_icmp_lt (pc := 22) 55 dX5_release_22 rfl ?_ ?_
    · exact hf_Jret (pc := 55) dX5_release_55 (fun _ => rfl)
    · refine hf_ald_n (pc := 25) 0 rfl rfl dX5_release_25 ?_
      refine hf_dup (pc := 26) (by decide) dX5_release_26 ?_
      refine hf_getf (pc := 27) fl_X5_29 dX5_release_27 (fun v27 => ?_)
      refine hf_iconst (pc := 30) dX5_release_30 ?_
      refine hf_isub (pc := 31) dX5_release_31 ?_
      refine hf_putf (pc := 32) fl_X5_29 trivial dX5_release_32 ?_
      refine hf_ald_n (pc := 35) 0 rfl rfl dX5_release_35 ?_
      refine hf_sipush (pc := 36) dX5_release_36 (by decide) ?_
      refine hf_ald_n (pc := 39) 0 rfl rfl dX5_release_39 ?_
      refine hf_getf (pc := 40) fl_X5_25 dX5_release_40 (fun v40 => ?_)
      refine hf_ald_n (pc := 43) 0 rfl rfl dX5_release_43 ?_
      refine hf_getf (pc := 44) fl_X5_29 dX5_release_44 (fun v44 => ?_)
      refine hf_iald (pc := 47) dX5_release_47 (fun v47 => ?_)
      refine hf_iadd (pc := 48) dX5_release_48 ?_
      refine hf_cV (pc := 49) (N := M_X5_write) (ts := [0]) (vs := [(1000 + v47)]) (st := []) (fun r => []) (c_X5_write x0 (1000 + v47)) cal_X5_write ml_X5_124 ⟨hf_le rfl, hf_le rfl⟩ (hf_le rfl) ⟨rfl, rfl⟩ rfl dX5_release_49 (fun _ => rfl) (fun _ => ?_)
      refine hf_goto (pc := 52) 0 dX5_release_52 rfl ?_
      exact hf_sub [0, 1] rfl (hrec_0 ())
set_option maxRecDepth 20000 in
theorem j_X5_release_0 (x0 x1 : Int) : hf_J M_X5_release 0 [(0, 2, x0), (1, 0, x1)] [] (f_X5_release_0 x0 x1) :=
  hf_Jfx (L := fun s => [(0, 2, x0), (1, 0, x1)]) (fun rec hrec s => jb_X5_release_0 x0 x1 rec hrec) hf_N ()
set_option maxRecDepth 20000 in
theorem c_X5_release (x0 x1 : Int) : hf_Met M_X5_release [2, 0] [x0, x1] (f_X5_release x0 x1) := by
  refine hf_met rfl (by decide) (by decide) (by decide) ?_
  show hf_J M_X5_release 0 [(0, 2, x0), (1, 0, x1)] [] _
  exact hf_sub [0, 1] rfl (j_X5_release_0 x0 x1)
/-! PlanReader.takeOperator(I)I -/
def M_X5_takeOperator : hf_D := (yX5_takeOperator, cX5_takeOperator, 2, some .int, 3, 61)
def f_X5_takeOperator_104 (x0 : Int) : hf_M Int :=
  hf_bd (hf_pf 5 6 x0 2) (fun _ => hf_ret 0)
def f_X5_takeOperator_64 (x0 x1 s0 s1 : Int) : hf_M Int :=
  hf_ck (s1 = 0 ∨ s1 = 1) (hf_bd (hf_pf 5 9 s0 s1) (fun _ => hf_bd (f_X9_isComparison x1) (fun v68 => hf_cz v68 (v68 = 0) (hf_bd (hf_gf 5 9 x0) (fun v88 => hf_cz v88 (v88 = 0) (f_X5_takeOperator_104 x0) (hf_bd (hf_gf 5 8 x0) (fun v95 => hf_bd (hf_gf 5 7 x0) (fun v99 => hf_bd (hf_as 23 v95 v99 0) (fun _ => f_X5_takeOperator_104 x0)))))) (hf_bd (hf_gf 5 8 x0) (fun v75 => hf_bd (hf_gf 5 7 x0) (fun v79 => hf_bd (hf_as 23 v75 v79 1) (fun _ => f_X5_takeOperator_104 x0)))))))
def f_X5_takeOperator_35 (x0 x1 : Int) : hf_M Int :=
  hf_bd (hf_ob 5 x0 (f_X5_hold x0 x1)) (fun _ => hf_cb x1 9 (x1 = 9) (f_X5_takeOperator_64 x0 x1 x0 1) (hf_cb x1 11 (x1 = 11) (f_X5_takeOperator_64 x0 x1 x0 1) (hf_cb x1 10 (¬ x1 = 10) (f_X5_takeOperator_64 x0 x1 x0 0) (f_X5_takeOperator_64 x0 x1 x0 1))))
def f_X5_takeOperator (x0 x1 : Int) : hf_M Int :=
  hf_bd (hf_gf 5 4 x0) (fun v1 => hf_cb v1 64 (v1 < 64) (hf_bd (hf_gf 5 4 x0) (fun v13 => hf_bd (hf_pf 5 4 x0 (v13 + 1)) (fun _ => hf_cb x1 9 (x1 = 9) (f_X5_takeOperator_35 x0 x1) (hf_bd (f_X9_bindingOf x1) (fun v29 => hf_bd (hf_ob 5 x0 (f_X5_release x0 v29)) (fun _ => f_X5_takeOperator_35 x0 x1)))))) (hf_ret 2))
theorem cal_X5_takeOperator : hf_cv M_X5_takeOperator 5 1 := ⟨⟨ii_X5, kc_X5_takeOperator, by decide, by decide, by decide +kernel⟩, ki_X5_takeOperator, kv_X5_takeOperator, _, rfl, rfl⟩
set_option maxRecDepth 20000 in
theorem j_X5_takeOperator_104 (x0 : Int) : hf_J M_X5_takeOperator 104 [(0, 2, x0)] [] (f_X5_takeOperator_104 x0) := by
  refine hf_ald_n (pc := 104) 0 rfl rfl dX5_takeOperator_104 ?_
  refine hf_iconst (pc := 105) dX5_takeOperator_105 ?_
  refine hf_putf (pc := 106) fl_X5_39 trivial dX5_takeOperator_106 ?_
  refine hf_iconst (pc := 109) dX5_takeOperator_109 ?_
  exact hf_Jret (pc := 110) dX5_takeOperator_110 (fun _ => rfl)
set_option maxRecDepth 20000 in
theorem j_X5_takeOperator_64 (x0 x1 s0 s1 : Int) : hf_J M_X5_takeOperator 64 [(0, 2, x0), (1, 0, x1)] [(0, s1), (2, s0)] (f_X5_takeOperator_64 x0 x1 s0 s1) := by
  refine hf_Jck (fun hz => ?_)
  refine hf_putf (pc := 64) fl_X5_49 hz dX5_takeOperator_64 ?_
  refine hf_ild_n (pc := 67) 1 rfl rfl dX5_takeOperator_67 ?_
  refine hf_cS (pc := 68) (N := M_X9_isComparison) (ts := [0]) (vs := [x1]) (st := []) (fun r => [(0, r)]) (c_X9_isComparison x1) cal_X9_isComparison ml_X5_133 ⟨hf_le rfl, hf_le rfl⟩ (hf_le rfl) ⟨rfl, rfl⟩ rfl dX5_takeOperator_68 (fun _ => rfl) (fun v68 => ?_)
  refine hf_if_eq (pc := 71) 87 dX5_takeOperator_71 rfl ?_ ?_
  · refine hf_ald_n (pc := 87) 0 rfl rfl dX5_takeOperator_87 ?_
    refine hf_getf (pc := 88) fl_X5_49 dX5_takeOperator_88 (fun v88 => ?_)
    refine hf_if_eq (pc := 91) 104 dX5_takeOperator_91 rfl ?_ ?_
    · exact hf_sub [0] rfl (j_X5_takeOperator_104 x0)
    · refine hf_ald_n (pc := 94) 0 rfl rfl dX5_takeOperator_94 ?_
      refine hf_getf (pc := 95) fl_X5_45 dX5_takeOperator_95 (fun v95 => ?_)
      refine hf_ald_n (pc := 98) 0 rfl rfl dX5_takeOperator_98 ?_
      refine hf_getf (pc := 99) fl_X5_42 dX5_takeOperator_99 (fun v99 => ?_)
      refine hf_iconst (pc := 102) dX5_takeOperator_102 ?_
      refine hf_zast (pc := 103) (Or.inl rfl) dX5_takeOperator_103 ?_
      exact hf_sub [0] rfl (j_X5_takeOperator_104 x0)
  · refine hf_ald_n (pc := 74) 0 rfl rfl dX5_takeOperator_74 ?_
    refine hf_getf (pc := 75) fl_X5_45 dX5_takeOperator_75 (fun v75 => ?_)
    refine hf_ald_n (pc := 78) 0 rfl rfl dX5_takeOperator_78 ?_
    refine hf_getf (pc := 79) fl_X5_42 dX5_takeOperator_79 (fun v79 => ?_)
    refine hf_iconst (pc := 82) dX5_takeOperator_82 ?_
    refine hf_zast (pc := 83) (Or.inr rfl) dX5_takeOperator_83 ?_
    refine hf_goto (pc := 84) 104 dX5_takeOperator_84 rfl ?_
    exact hf_sub [0] rfl (j_X5_takeOperator_104 x0)
set_option maxRecDepth 20000 in
theorem j_X5_takeOperator_35 (x0 x1 : Int) : hf_J M_X5_takeOperator 35 [(0, 2, x0), (1, 0, x1)] [] (f_X5_takeOperator_35 x0 x1) := by
  refine hf_ald_n (pc := 35) 0 rfl rfl dX5_takeOperator_35 ?_
  refine hf_ild_n (pc := 36) 1 rfl rfl dX5_takeOperator_36 ?_
  refine hf_cV (pc := 37) (N := M_X5_hold) (ts := [0]) (vs := [x1]) (st := []) (fun r => []) (c_X5_hold x0 x1) cal_X5_hold ml_X5_127 ⟨hf_le rfl, hf_le rfl⟩ (hf_le rfl) ⟨rfl, rfl⟩ rfl dX5_takeOperator_37 (fun _ => rfl) (fun _ => ?_)
  refine hf_ald_n (pc := 40) 0 rfl rfl dX5_takeOperator_40 ?_
  refine hf_ild_n (pc := 41) 1 rfl rfl dX5_takeOperator_41 ?_
  refine hf_bipush (pc := 42) dX5_takeOperator_42 (by decide) ?_
  refine hf_icmp_eq (pc := 44) 59 dX5_takeOperator_44 rfl ?_ ?_
  · refine hf_iconst (pc := 59) dX5_takeOperator_59 ?_
    refine hf_goto (pc := 60) 64 dX5_takeOperator_60 rfl ?_
    exact hf_sub [0, 1] rfl (j_X5_takeOperator_64 x0 x1 x0 1)
  · refine hf_ild_n (pc := 47) 1 rfl rfl dX5_takeOperator_47 ?_
    refine hf_bipush (pc := 48) dX5_takeOperator_48 (by decide) ?_
    refine hf_icmp_eq (pc := 50) 59 dX5_takeOperator_50 rfl ?_ ?_
    · refine hf_iconst (pc := 59) dX5_takeOperator_59 ?_
      refine hf_goto (pc := 60) 64 dX5_takeOperator_60 rfl ?_
      exact hf_sub [0, 1] rfl (j_X5_takeOperator_64 x0 x1 x0 1)
    · refine hf_ild_n (pc := 53) 1 rfl rfl dX5_takeOperator_53 ?_
      refine hf_bipush (pc := 54) dX5_takeOperator_54 (by decide) ?_
      refine hf_icmp_ne (pc := 56) 63 dX5_takeOperator_56 rfl ?_ ?_
      · refine hf_iconst (pc := 63) dX5_takeOperator_63 ?_
        exact hf_sub [0, 1] rfl (j_X5_takeOperator_64 x0 x1 x0 0)
      · refine hf_iconst (pc := 59) dX5_takeOperator_59 ?_
        refine hf_goto (pc := 60) 64 dX5_takeOperator_60 rfl ?_
        exact hf_sub [0, 1] rfl (j_X5_takeOperator_64 x0 x1 x0 1)
set_option maxRecDepth 20000 in
theorem c_X5_takeOperator (x0 x1 : Int) : hf_Met M_X5_takeOperator [2, 0] [x0, x1] (f_X5_takeOperator x0 x1) := by
  refine hf_met rfl (by decide) (by decide) (by decide) ?_
  show hf_J M_X5_takeOperator 0 [(0, 2, x0), (1, 0, x1)] [] _
  refine hf_ald_n (pc := 0) 0 rfl rfl dX5_takeOperator_0 ?_
  refine hf_getf (pc := 1) fl_X5_33 dX5_takeOperator_1 (fun v1 => ?_)
  refine hf_bipush (pc := 4) dX5_takeOperator_4 (by decide) ?_
  refine hf_icmp_lt (pc := 6) 11 dX5_takeOperator_6 rfl ?_ ?_
  · refine hf_ald_n (pc := 11) 0 rfl rfl dX5_takeOperator_11 ?_
    refine hf_dup (pc := 12) (by decide) dX5_takeOperator_12 ?_
    refine hf_getf (pc := 13) fl_X5_33 dX5_takeOperator_13 (fun v13 => ?_)
    refine hf_iconst (pc := 16) dX5_takeOperator_16 ?_
    refine hf_iadd (pc := 17) dX5_takeOperator_17 ?_
    refine hf_putf (pc := 18) fl_X5_33 trivial dX5_takeOperator_18 ?_
    refine hf_ild_n (pc := 21) 1 rfl rfl dX5_takeOperator_21 ?_
    refine hf_bipush (pc := 22) dX5_takeOperator_22 (by decide) ?_
    refine hf_icmp_eq (pc := 24) 35 dX5_takeOperator_24 rfl ?_ ?_
    · exact hf_sub [0, 1] rfl (j_X5_takeOperator_35 x0 x1)
    · refine hf_ald_n (pc := 27) 0 rfl rfl dX5_takeOperator_27 ?_
      refine hf_ild_n (pc := 28) 1 rfl rfl dX5_takeOperator_28 ?_
      refine hf_cS (pc := 29) (N := M_X9_bindingOf) (ts := [0]) (vs := [x1]) (st := [(2, x0)]) (fun r => [(0, r), (2, x0)]) (c_X9_bindingOf x1) cal_X9_bindingOf ml_X5_136 ⟨hf_le rfl, hf_le rfl⟩ (hf_le rfl) ⟨rfl, rfl⟩ rfl dX5_takeOperator_29 (fun _ => rfl) (fun v29 => ?_)
      refine hf_cV (pc := 32) (N := M_X5_release) (ts := [0]) (vs := [v29]) (st := []) (fun r => []) (c_X5_release x0 v29) cal_X5_release ml_X5_139 ⟨hf_le rfl, hf_le rfl⟩ (hf_le rfl) ⟨rfl, rfl⟩ rfl dX5_takeOperator_32 (fun _ => rfl) (fun _ => ?_)
      exact hf_sub [0, 1] rfl (j_X5_takeOperator_35 x0 x1)
  · refine hf_iconst (pc := 9) dX5_takeOperator_9 ?_
    exact hf_Jret (pc := 10) dX5_takeOperator_10 (fun _ => rfl)
/-! Token.isName(I)Z -/
def M_X9_isName : hf_D := (yX9_isName, cX9_isName, 1, some .boolean, 0, 0)
def f_X9_isName (x0 : Int) : hf_M Int :=
  hf_cb x0 12 (x0 < 12) (hf_ret 0) (hf_cb x0 20 (20 < x0) (hf_ret 0) (hf_ret 1))
theorem cal_X9_isName : hf_csx M_X9_isName 1 := ⟨⟨ii_X9, kc_X9_isName, by decide, by decide, by decide +kernel⟩, ks_X9_isName⟩
set_option maxRecDepth 20000 in
theorem c_X9_isName (x0 : Int) : hf_Met M_X9_isName [0] [x0] (f_X9_isName x0) := by
  refine hf_met rfl (by decide) (by decide) (by decide) ?_
  show hf_J M_X9_isName 0 [(0, 0, x0)] [] _
  refine hf_ild_n (pc := 0) 0 rfl rfl dX9_isName_0 ?_
  refine hf_bipush (pc := 1) dX9_isName_1 (by decide) ?_
  refine hf_icmp_lt (pc := 3) 16 dX9_isName_3 rfl ?_ ?_
  · refine hf_iconst (pc := 16) dX9_isName_16 ?_
    exact hf_Jret (pc := 17) (r := 0) ⟨dX9_isName_17, Or.inl rfl⟩ (fun _ => rfl)
  · refine hf_ild_n (pc := 6) 0 rfl rfl dX9_isName_6 ?_
    refine hf_bipush (pc := 7) dX9_isName_7 (by decide) ?_
    refine hf_icmp_gt (pc := 9) 16 dX9_isName_9 rfl ?_ ?_
    · refine hf_iconst (pc := 16) dX9_isName_16 ?_
      exact hf_Jret (pc := 17) (r := 0) ⟨dX9_isName_17, Or.inl rfl⟩ (fun _ => rfl)
    · refine hf_iconst (pc := 12) dX9_isName_12 ?_
      refine hf_goto (pc := 13) 17 dX9_isName_13 rfl ?_
      exact hf_Jret (pc := 17) (r := 1) ⟨dX9_isName_17, Or.inr rfl⟩ (fun _ => rfl)
/-! PlanReader.takeOperand(I)I -/
def M_X5_takeOperand : hf_D := (yX5_takeOperand, cX5_takeOperand, 2, some .int, 4, 82)
def f_X5_takeOperand_102 (x0 s0 s1 : Int) : hf_M Int :=
  hf_bd (hf_ob 5 s0 (f_X5_write s0 s1)) (fun _ => hf_bd (hf_pf 5 6 x0 3) (fun _ => hf_ret 0))
def f_X5_takeOperand_47 (x0 x1 : Int) : hf_M Int :=
  hf_bd (hf_gf 5 4 x0) (fun v48 => hf_cb v48 64 (64 ≤ v48) (hf_ret 2) (hf_bd (hf_gf 5 0 x0) (fun v57 => hf_bd (hf_gf 9 5 v57) (fun v60 => hf_cb v60 1000 (v60 < 1000) (hf_bd (hf_gf 5 4 x0) (fun v73 => hf_bd (hf_pf 5 4 x0 (v73 + 1)) (fun _ => hf_cb x1 2 (¬ x1 = 2) (f_X5_takeOperand_102 x0 x0 (1000 + x1)) (hf_bd (hf_gf 5 0 x0) (fun v88 => hf_bd (hf_gf 9 5 v88) (fun v91 => f_X5_takeOperand_102 x0 x0 v91)))))) (hf_ret 2)))))
def f_X5_takeOperand (x0 x1 : Int) : hf_M Int :=
  hf_cb x1 3 (¬ x1 = 3) (hf_cb x1 9 (¬ x1 = 9) (hf_cb x1 2 (x1 = 2) (f_X5_takeOperand_47 x0 x1) (hf_bd (f_X9_isName x1) (fun v39 => hf_cz v39 (¬ v39 = 0) (f_X5_takeOperand_47 x0 x1) (hf_ret 1)))) (hf_bd (hf_gf 5 9 x0) (fun v17 => hf_cz v17 (v17 = 0) (hf_ret 1) (hf_bd (hf_ob 5 x0 (f_X5_takeOperator x0 x1)) (fun v25 => hf_ret v25))))) (hf_bd (hf_ob 5 x0 (f_X5_takeOpen x0)) (fun v6 => hf_ret v6))
theorem cal_X5_takeOperand : hf_cv M_X5_takeOperand 5 1 := ⟨⟨ii_X5, kc_X5_takeOperand, by decide, by decide, by decide +kernel⟩, ki_X5_takeOperand, kv_X5_takeOperand, _, rfl, rfl⟩
set_option maxRecDepth 20000 in
theorem j_X5_takeOperand_102 (x0 s0 s1 : Int) : hf_J M_X5_takeOperand 102 [(0, 2, x0)] [(0, s1), (2, s0)] (f_X5_takeOperand_102 x0 s0 s1) := by
  refine hf_cV (pc := 102) (N := M_X5_write) (ts := [0]) (vs := [s1]) (st := []) (fun r => []) (c_X5_write s0 s1) cal_X5_write ml_X5_124 ⟨hf_le rfl, hf_le rfl⟩ (hf_le rfl) ⟨rfl, rfl⟩ rfl dX5_takeOperand_102 (fun _ => rfl) (fun _ => ?_)
  refine hf_ald_n (pc := 105) 0 rfl rfl dX5_takeOperand_105 ?_
  refine hf_iconst (pc := 106) dX5_takeOperand_106 ?_
  refine hf_putf (pc := 107) fl_X5_39 trivial dX5_takeOperand_107 ?_
  refine hf_iconst (pc := 110) dX5_takeOperand_110 ?_
  exact hf_Jret (pc := 111) dX5_takeOperand_111 (fun _ => rfl)
set_option maxRecDepth 20000 in
theorem j_X5_takeOperand_47 (x0 x1 : Int) : hf_J M_X5_takeOperand 47 [(0, 2, x0), (1, 0, x1)] [] (f_X5_takeOperand_47 x0 x1) := by
  refine hf_ald_n (pc := 47) 0 rfl rfl dX5_takeOperand_47 ?_
  refine hf_getf (pc := 48) fl_X5_33 dX5_takeOperand_48 (fun v48 => ?_)
  refine hf_bipush (pc := 51) dX5_takeOperand_51 (by decide) ?_
  refine hf_icmp_ge (pc := 53) 69 dX5_takeOperand_53 rfl ?_ ?_
  · refine hf_iconst (pc := 69) dX5_takeOperand_69 ?_
    exact hf_Jret (pc := 70) dX5_takeOperand_70 (fun _ => rfl)
  · refine hf_ald_n (pc := 56) 0 rfl rfl dX5_takeOperand_56 ?_
    refine hf_getf (pc := 57) fl_X5_12 dX5_takeOperand_57 (fun v57 => ?_)
    refine hf_getf (pc := 60) fl_X5_110 dX5_takeOperand_60 (fun v60 => ?_)
    refine hf_sipush (pc := 63) dX5_takeOperand_63 (by decide) ?_
    refine hf_icmp_lt (pc := 66) 71 dX5_takeOperand_66 rfl ?_ ?_
    · refine hf_ald_n (pc := 71) 0 rfl rfl dX5_takeOperand_71 ?_
      refine hf_dup (pc := 72) (by decide) dX5_takeOperand_72 ?_
      refine hf_getf (pc := 73) fl_X5_33 dX5_takeOperand_73 (fun v73 => ?_)
      refine hf_iconst (pc := 76) dX5_takeOperand_76 ?_
      refine hf_iadd (pc := 77) dX5_takeOperand_77 ?_
      refine hf_putf (pc := 78) fl_X5_33 trivial dX5_takeOperand_78 ?_
      refine hf_ald_n (pc := 81) 0 rfl rfl dX5_takeOperand_81 ?_
      refine hf_ild_n (pc := 82) 1 rfl rfl dX5_takeOperand_82 ?_
      refine hf_iconst (pc := 83) dX5_takeOperand_83 ?_
      refine hf_icmp_ne (pc := 84) 97 dX5_takeOperand_84 rfl ?_ ?_
      · refine hf_sipush (pc := 97) dX5_takeOperand_97 (by decide) ?_
        refine hf_ild_n (pc := 100) 1 rfl rfl dX5_takeOperand_100 ?_
        refine hf_iadd (pc := 101) dX5_takeOperand_101 ?_
        exact hf_sub [0] rfl (j_X5_takeOperand_102 x0 x0 (1000 + x1))
      · refine hf_ald_n (pc := 87) 0 rfl rfl dX5_takeOperand_87 ?_
        refine hf_getf (pc := 88) fl_X5_12 dX5_takeOperand_88 (fun v88 => ?_)
        refine hf_getf (pc := 91) fl_X5_110 dX5_takeOperand_91 (fun v91 => ?_)
        refine hf_goto (pc := 94) 102 dX5_takeOperand_94 rfl ?_
        exact hf_sub [0] rfl (j_X5_takeOperand_102 x0 x0 v91)
    · refine hf_iconst (pc := 69) dX5_takeOperand_69 ?_
      exact hf_Jret (pc := 70) dX5_takeOperand_70 (fun _ => rfl)
set_option maxRecDepth 20000 in
theorem c_X5_takeOperand (x0 x1 : Int) : hf_Met M_X5_takeOperand [2, 0] [x0, x1] (f_X5_takeOperand x0 x1) := by
  refine hf_met rfl (by decide) (by decide) (by decide) ?_
  show hf_J M_X5_takeOperand 0 [(0, 2, x0), (1, 0, x1)] [] _
  refine hf_ild_n (pc := 0) 1 rfl rfl dX5_takeOperand_0 ?_
  refine hf_iconst (pc := 1) dX5_takeOperand_1 ?_
  refine hf_icmp_ne (pc := 2) 10 dX5_takeOperand_2 rfl ?_ ?_
  · refine hf_ild_n (pc := 10) 1 rfl rfl dX5_takeOperand_10 ?_
    refine hf_bipush (pc := 11) dX5_takeOperand_11 (by decide) ?_
    refine hf_icmp_ne (pc := 13) 33 dX5_takeOperand_13 rfl ?_ ?_
    · refine hf_ild_n (pc := 33) 1 rfl rfl dX5_takeOperand_33 ?_
      refine hf_iconst (pc := 34) dX5_takeOperand_34 ?_
      refine hf_icmp_eq (pc := 35) 47 dX5_takeOperand_35 rfl ?_ ?_
      · exact hf_sub [0, 1] rfl (j_X5_takeOperand_47 x0 x1)
      · refine hf_ild_n (pc := 38) 1 rfl rfl dX5_takeOperand_38 ?_
        refine hf_cS (pc := 39) (N := M_X9_isName) (ts := [0]) (vs := [x1]) (st := []) (fun r => [(0, r)]) (c_X9_isName x1) cal_X9_isName ml_X5_120 ⟨hf_le rfl, hf_le rfl⟩ (hf_le rfl) ⟨rfl, rfl⟩ rfl dX5_takeOperand_39 (fun _ => rfl) (fun v39 => ?_)
        refine hf_if_ne (pc := 42) 47 dX5_takeOperand_42 rfl ?_ ?_
        · exact hf_sub [0, 1] rfl (j_X5_takeOperand_47 x0 x1)
        · refine hf_iconst (pc := 45) dX5_takeOperand_45 ?_
          exact hf_Jret (pc := 46) dX5_takeOperand_46 (fun _ => rfl)
    · refine hf_ald_n (pc := 16) 0 rfl rfl dX5_takeOperand_16 ?_
      refine hf_getf (pc := 17) fl_X5_49 dX5_takeOperand_17 (fun v17 => ?_)
      refine hf_if_eq (pc := 20) 31 dX5_takeOperand_20 rfl ?_ ?_
      · refine hf_iconst (pc := 31) dX5_takeOperand_31 ?_
        exact hf_Jret (pc := 32) dX5_takeOperand_32 (fun _ => rfl)
      · refine hf_ald_n (pc := 23) 0 rfl rfl dX5_takeOperand_23 ?_
        refine hf_ild_n (pc := 24) 1 rfl rfl dX5_takeOperand_24 ?_
        refine hf_cV (pc := 25) (N := M_X5_takeOperator) (ts := [0]) (vs := [x1]) (st := []) (fun r => [(0, r)]) (c_X5_takeOperator x0 x1) cal_X5_takeOperator ml_X5_117 ⟨hf_le rfl, hf_le rfl⟩ (hf_le rfl) ⟨rfl, rfl⟩ rfl dX5_takeOperand_25 (fun _ => rfl) (fun v25 => ?_)
        refine hf_goto (pc := 28) 32 dX5_takeOperand_28 rfl ?_
        exact hf_Jret (pc := 32) dX5_takeOperand_32 (fun _ => rfl)
  · refine hf_ald_n (pc := 5) 0 rfl rfl dX5_takeOperand_5 ?_
    refine hf_cV (pc := 6) (N := M_X5_takeOpen) (ts := []) (vs := []) (st := []) (fun r => [(0, r)]) (c_X5_takeOpen x0) cal_X5_takeOpen ml_X5_113 ⟨hf_le rfl, hf_le rfl⟩ (hf_le rfl) ⟨rfl, rfl⟩ rfl dX5_takeOperand_6 (fun _ => rfl) (fun v6 => ?_)
    exact hf_Jret (pc := 9) dX5_takeOperand_9 (fun _ => rfl)
/-! PlanReader.takeClose()I -/
def M_X5_takeClose : hf_D := (yX5_takeClose, cX5_takeClose, 1, some .int, 3, 61)
def f_X5_takeClose (x0 : Int) : hf_M Int :=
  hf_bd (hf_gf 5 7 x0) (fun v1 => hf_cz v1 (¬ v1 = 0) (hf_bd (hf_ob 5 x0 (f_X5_release x0 1)) (fun _ => hf_bd (hf_gf 5 3 x0) (fun v16 => hf_bd (hf_pf 5 3 x0 (v16 - 1)) (fun _ => hf_bd (hf_gf 5 7 x0) (fun v26 => hf_bd (hf_pf 5 7 x0 (v26 - 1)) (fun _ => hf_ret 0)))))) (hf_ret 1))
theorem cal_X5_takeClose : hf_cv M_X5_takeClose 5 0 := ⟨⟨ii_X5, kc_X5_takeClose, by decide, by decide, by decide +kernel⟩, ki_X5_takeClose, kv_X5_takeClose, _, rfl, rfl⟩
set_option maxRecDepth 20000 in
theorem c_X5_takeClose (x0 : Int) : hf_Met M_X5_takeClose [2] [x0] (f_X5_takeClose x0) := by
  refine hf_met rfl (by decide) (by decide) (by decide) ?_
  show hf_J M_X5_takeClose 0 [(0, 2, x0)] [] _
  refine hf_ald_n (pc := 0) 0 rfl rfl dX5_takeClose_0 ?_
  refine hf_getf (pc := 1) fl_X5_42 dX5_takeClose_1 (fun v1 => ?_)
  refine hf_if_ne (pc := 4) 9 dX5_takeClose_4 rfl ?_ ?_
  · refine hf_ald_n (pc := 9) 0 rfl rfl dX5_takeClose_9 ?_
    refine hf_iconst (pc := 10) dX5_takeClose_10 ?_
    refine hf_cV (pc := 11) (N := M_X5_release) (ts := [0]) (vs := [1]) (st := []) (fun r => []) (c_X5_release x0 1) cal_X5_release ml_X5_139 ⟨hf_le rfl, hf_le rfl⟩ (hf_le rfl) ⟨rfl, rfl⟩ rfl dX5_takeClose_11 (fun _ => rfl) (fun _ => ?_)
    refine hf_ald_n (pc := 14) 0 rfl rfl dX5_takeClose_14 ?_
    refine hf_dup (pc := 15) (by decide) dX5_takeClose_15 ?_
    refine hf_getf (pc := 16) fl_X5_29 dX5_takeClose_16 (fun v16 => ?_)
    refine hf_iconst (pc := 19) dX5_takeClose_19 ?_
    refine hf_isub (pc := 20) dX5_takeClose_20 ?_
    refine hf_putf (pc := 21) fl_X5_29 trivial dX5_takeClose_21 ?_
    refine hf_ald_n (pc := 24) 0 rfl rfl dX5_takeClose_24 ?_
    refine hf_dup (pc := 25) (by decide) dX5_takeClose_25 ?_
    refine hf_getf (pc := 26) fl_X5_42 dX5_takeClose_26 (fun v26 => ?_)
    refine hf_iconst (pc := 29) dX5_takeClose_29 ?_
    refine hf_isub (pc := 30) dX5_takeClose_30 ?_
    refine hf_putf (pc := 31) fl_X5_42 trivial dX5_takeClose_31 ?_
    refine hf_iconst (pc := 34) dX5_takeClose_34 ?_
    exact hf_Jret (pc := 35) dX5_takeClose_35 (fun _ => rfl)
  · refine hf_iconst (pc := 7) dX5_takeClose_7 ?_
    exact hf_Jret (pc := 8) dX5_takeClose_8 (fun _ => rfl)
/-! PlanReader.takeBehindOperand(I)I -/
def M_X5_takeBehindOperand : hf_D := (yX5_takeBehindOperand, cX5_takeBehindOperand, 2, some .int, 4, 82)
def f_X5_takeBehindOperand_78 (x0 x1 : Int) : hf_M Int :=
  hf_bd (hf_ob 5 x0 (f_X5_release x0 1)) (fun _ => hf_bd (hf_ob 5 x0 (f_X5_startDeed x0 x1)) (fun _ => hf_ret 0))
def f_X5_takeBehindOperand_90 (x0 x1 : Int) : hf_M Int :=
  hf_bd (hf_gf 5 10 x0) (fun v91 => hf_cz v91 (¬ v91 = 0) (hf_ret 1) (hf_cb x1 5 (¬ x1 = 5) (hf_ret 1) (hf_bd (hf_ob 5 x0 (f_X5_release x0 1)) (fun _ => hf_bd (hf_gf 5 1 x0) (fun v108 => hf_bd (hf_gf 4 4 v108) (fun v111 => hf_bd (hf_gf 5 1 x0) (fun v115 => hf_bd (hf_gf 4 0 v115) (fun v118 => hf_bd (hf_gf 5 5 x0) (fun v122 => hf_bd (hf_as 20 v111 v118 v122) (fun _ => hf_bd (hf_gf 5 1 x0) (fun v127 => hf_bd (hf_gf 4 0 v127) (fun v131 => hf_bd (hf_pf 4 0 v127 (v131 + 1)) (fun _ => hf_bd (hf_pf 5 6 x0 0) (fun _ => hf_ret 0))))))))))))))
def f_X5_takeBehindOperand_50 (x0 x1 : Int) : hf_M Int :=
  hf_bd (hf_gf 5 7 x0) (fun v51 => hf_cz v51 (v51 ≤ 0) (hf_bd (hf_gf 5 10 x0) (fun v60 => hf_cz v60 (v60 = 0) (f_X5_takeBehindOperand_90 x0 x1) (hf_cb x1 7 (x1 = 7) (f_X5_takeBehindOperand_78 x0 x1) (hf_cb x1 8 (¬ x1 = 8) (f_X5_takeBehindOperand_90 x0 x1) (f_X5_takeBehindOperand_78 x0 x1))))) (hf_ret 1))
def f_X5_takeBehindOperand_31 (x0 x1 : Int) : hf_M Int :=
  hf_bd (f_X9_bindingOf x1) (fun v32 => hf_cz v32 (v32 ≤ 0) (f_X5_takeBehindOperand_50 x0 x1) (hf_cb x1 9 (x1 = 9) (f_X5_takeBehindOperand_50 x0 x1) (hf_bd (hf_ob 5 x0 (f_X5_takeOperator x0 x1)) (fun v46 => hf_ret v46))))
def f_X5_takeBehindOperand (x0 x1 : Int) : hf_M Int :=
  hf_cb x1 4 (¬ x1 = 4) (hf_bd (f_X9_isComparison x1) (fun v11 => hf_cz v11 (v11 = 0) (f_X5_takeBehindOperand_31 x0 x1) (hf_bd (hf_gf 5 8 x0) (fun v18 => hf_bd (hf_gf 5 7 x0) (fun v22 => hf_bd (hf_al 23 v18 v22) (fun v25 => hf_cz v25 (v25 = 0) (f_X5_takeBehindOperand_31 x0 x1) (hf_ret 1))))))) (hf_bd (hf_ob 5 x0 (f_X5_takeClose x0)) (fun v6 => hf_ret v6))
theorem cal_X5_takeBehindOperand : hf_cv M_X5_takeBehindOperand 5 1 := ⟨⟨ii_X5, kc_X5_takeBehindOperand, by decide, by decide, by decide +kernel⟩, ki_X5_takeBehindOperand, kv_X5_takeBehindOperand, _, rfl, rfl⟩
set_option maxRecDepth 20000 in
theorem j_X5_takeBehindOperand_78 (x0 x1 : Int) : hf_J M_X5_takeBehindOperand 78 [(0, 2, x0), (1, 0, x1)] [] (f_X5_takeBehindOperand_78 x0 x1) := by
  refine hf_ald_n (pc := 78) 0 rfl rfl dX5_takeBehindOperand_78 ?_
  refine hf_iconst (pc := 79) dX5_takeBehindOperand_79 ?_
  refine hf_cV (pc := 80) (N := M_X5_release) (ts := [0]) (vs := [1]) (st := []) (fun r => []) (c_X5_release x0 1) cal_X5_release ml_X5_139 ⟨hf_le rfl, hf_le rfl⟩ (hf_le rfl) ⟨rfl, rfl⟩ rfl dX5_takeBehindOperand_80 (fun _ => rfl) (fun _ => ?_)
  refine hf_ald_n (pc := 83) 0 rfl rfl dX5_takeBehindOperand_83 ?_
  refine hf_ild_n (pc := 84) 1 rfl rfl dX5_takeBehindOperand_84 ?_
  refine hf_cV (pc := 85) (N := M_X5_startDeed) (ts := [0]) (vs := [x1]) (st := []) (fun r => []) (c_X5_startDeed x0 x1) cal_X5_startDeed ml_X5_100 ⟨hf_le rfl, hf_le rfl⟩ (hf_le rfl) ⟨rfl, rfl⟩ rfl dX5_takeBehindOperand_85 (fun _ => rfl) (fun _ => ?_)
  refine hf_iconst (pc := 88) dX5_takeBehindOperand_88 ?_
  exact hf_Jret (pc := 89) dX5_takeBehindOperand_89 (fun _ => rfl)
set_option maxRecDepth 20000 in
theorem j_X5_takeBehindOperand_90 (x0 x1 : Int) : hf_J M_X5_takeBehindOperand 90 [(0, 2, x0), (1, 0, x1)] [] (f_X5_takeBehindOperand_90 x0 x1) := by
  refine hf_ald_n (pc := 90) 0 rfl rfl dX5_takeBehindOperand_90 ?_
  refine hf_getf (pc := 91) fl_X5_53 dX5_takeBehindOperand_91 (fun v91 => ?_)
  refine hf_if_ne (pc := 94) 146 dX5_takeBehindOperand_94 rfl ?_ ?_
  · refine hf_iconst (pc := 146) dX5_takeBehindOperand_146 ?_
    exact hf_Jret (pc := 147) dX5_takeBehindOperand_147 (fun _ => rfl)
  · refine hf_ild_n (pc := 97) 1 rfl rfl dX5_takeBehindOperand_97 ?_
    refine hf_iconst (pc := 98) dX5_takeBehindOperand_98 ?_
    refine hf_icmp_ne (pc := 99) 146 dX5_takeBehindOperand_99 rfl ?_ ?_
    · refine hf_iconst (pc := 146) dX5_takeBehindOperand_146 ?_
      exact hf_Jret (pc := 147) dX5_takeBehindOperand_147 (fun _ => rfl)
    · refine hf_ald_n (pc := 102) 0 rfl rfl dX5_takeBehindOperand_102 ?_
      refine hf_iconst (pc := 103) dX5_takeBehindOperand_103 ?_
      refine hf_cV (pc := 104) (N := M_X5_release) (ts := [0]) (vs := [1]) (st := []) (fun r => []) (c_X5_release x0 1) cal_X5_release ml_X5_139 ⟨hf_le rfl, hf_le rfl⟩ (hf_le rfl) ⟨rfl, rfl⟩ rfl dX5_takeBehindOperand_104 (fun _ => rfl) (fun _ => ?_)
      refine hf_ald_n (pc := 107) 0 rfl rfl dX5_takeBehindOperand_107 ?_
      refine hf_getf (pc := 108) fl_X5_21 dX5_takeBehindOperand_108 (fun v108 => ?_)
      refine hf_getf (pc := 111) fl_X5_142 dX5_takeBehindOperand_111 (fun v111 => ?_)
      refine hf_ald_n (pc := 114) 0 rfl rfl dX5_takeBehindOperand_114 ?_
      refine hf_getf (pc := 115) fl_X5_21 dX5_takeBehindOperand_115 (fun v115 => ?_)
      refine hf_getf (pc := 118) fl_X5_94 dX5_takeBehindOperand_118 (fun v118 => ?_)
      refine hf_ald_n (pc := 121) 0 rfl rfl dX5_takeBehindOperand_121 ?_
      refine hf_getf (pc := 122) fl_X5_36 dX5_takeBehindOperand_122 (fun v122 => ?_)
      refine hf_iast (pc := 125) dX5_takeBehindOperand_125 ?_
      refine hf_ald_n (pc := 126) 0 rfl rfl dX5_takeBehindOperand_126 ?_
      refine hf_getf (pc := 127) fl_X5_21 dX5_takeBehindOperand_127 (fun v127 => ?_)
      refine hf_dup (pc := 130) (by decide) dX5_takeBehindOperand_130 ?_
      refine hf_getf (pc := 131) fl_X5_94 dX5_takeBehindOperand_131 (fun v131 => ?_)
      refine hf_iconst (pc := 134) dX5_takeBehindOperand_134 ?_
      refine hf_iadd (pc := 135) dX5_takeBehindOperand_135 ?_
      refine hf_putf (pc := 136) fl_X5_94 trivial dX5_takeBehindOperand_136 ?_
      refine hf_ald_n (pc := 139) 0 rfl rfl dX5_takeBehindOperand_139 ?_
      refine hf_iconst (pc := 140) dX5_takeBehindOperand_140 ?_
      refine hf_putf (pc := 141) fl_X5_39 trivial dX5_takeBehindOperand_141 ?_
      refine hf_iconst (pc := 144) dX5_takeBehindOperand_144 ?_
      exact hf_Jret (pc := 145) dX5_takeBehindOperand_145 (fun _ => rfl)
set_option maxRecDepth 20000 in
theorem j_X5_takeBehindOperand_50 (x0 x1 : Int) : hf_J M_X5_takeBehindOperand 50 [(0, 2, x0), (1, 0, x1)] [] (f_X5_takeBehindOperand_50 x0 x1) := by
  refine hf_ald_n (pc := 50) 0 rfl rfl dX5_takeBehindOperand_50 ?_
  refine hf_getf (pc := 51) fl_X5_42 dX5_takeBehindOperand_51 (fun v51 => ?_)
  refine hf_if_le (pc := 54) 59 dX5_takeBehindOperand_54 rfl ?_ ?_
  · refine hf_ald_n (pc := 59) 0 rfl rfl dX5_takeBehindOperand_59 ?_
    refine hf_getf (pc := 60) fl_X5_53 dX5_takeBehindOperand_60 (fun v60 => ?_)
    refine hf_if_eq (pc := 63) 90 dX5_takeBehindOperand_63 rfl ?_ ?_
    · exact hf_sub [0, 1] rfl (j_X5_takeBehindOperand_90 x0 x1)
    · refine hf_ild_n (pc := 66) 1 rfl rfl dX5_takeBehindOperand_66 ?_
      refine hf_bipush (pc := 67) dX5_takeBehindOperand_67 (by decide) ?_
      refine hf_icmp_eq (pc := 69) 78 dX5_takeBehindOperand_69 rfl ?_ ?_
      · exact hf_sub [0, 1] rfl (j_X5_takeBehindOperand_78 x0 x1)
      · refine hf_ild_n (pc := 72) 1 rfl rfl dX5_takeBehindOperand_72 ?_
        refine hf_bipush (pc := 73) dX5_takeBehindOperand_73 (by decide) ?_
        refine hf_icmp_ne (pc := 75) 90 dX5_takeBehindOperand_75 rfl ?_ ?_
        · exact hf_sub [0, 1] rfl (j_X5_takeBehindOperand_90 x0 x1)
        · exact hf_sub [0, 1] rfl (j_X5_takeBehindOperand_78 x0 x1)
  · refine hf_iconst (pc := 57) dX5_takeBehindOperand_57 ?_
    exact hf_Jret (pc := 58) dX5_takeBehindOperand_58 (fun _ => rfl)
set_option maxRecDepth 20000 in
theorem j_X5_takeBehindOperand_31 (x0 x1 : Int) : hf_J M_X5_takeBehindOperand 31 [(0, 2, x0), (1, 0, x1)] [] (f_X5_takeBehindOperand_31 x0 x1) := by
  refine hf_ild_n (pc := 31) 1 rfl rfl dX5_takeBehindOperand_31 ?_
  refine hf_cS (pc := 32) (N := M_X9_bindingOf) (ts := [0]) (vs := [x1]) (st := []) (fun r => [(0, r)]) (c_X9_bindingOf x1) cal_X9_bindingOf ml_X5_136 ⟨hf_le rfl, hf_le rfl⟩ (hf_le rfl) ⟨rfl, rfl⟩ rfl dX5_takeBehindOperand_32 (fun _ => rfl) (fun v32 => ?_)
  refine hf_if_le (pc := 35) 50 dX5_takeBehindOperand_35 rfl ?_ ?_
  · exact hf_sub [0, 1] rfl (j_X5_takeBehindOperand_50 x0 x1)
  · refine hf_ild_n (pc := 38) 1 rfl rfl dX5_takeBehindOperand_38 ?_
    refine hf_bipush (pc := 39) dX5_takeBehindOperand_39 (by decide) ?_
    refine hf_icmp_eq (pc := 41) 50 dX5_takeBehindOperand_41 rfl ?_ ?_
    · exact hf_sub [0, 1] rfl (j_X5_takeBehindOperand_50 x0 x1)
    · refine hf_ald_n (pc := 44) 0 rfl rfl dX5_takeBehindOperand_44 ?_
      refine hf_ild_n (pc := 45) 1 rfl rfl dX5_takeBehindOperand_45 ?_
      refine hf_cV (pc := 46) (N := M_X5_takeOperator) (ts := [0]) (vs := [x1]) (st := []) (fun r => [(0, r)]) (c_X5_takeOperator x0 x1) cal_X5_takeOperator ml_X5_117 ⟨hf_le rfl, hf_le rfl⟩ (hf_le rfl) ⟨rfl, rfl⟩ rfl dX5_takeBehindOperand_46 (fun _ => rfl) (fun v46 => ?_)
      exact hf_Jret (pc := 49) dX5_takeBehindOperand_49 (fun _ => rfl)
set_option maxRecDepth 20000 in
theorem c_X5_takeBehindOperand (x0 x1 : Int) : hf_Met M_X5_takeBehindOperand [2, 0] [x0, x1] (f_X5_takeBehindOperand x0 x1) := by
  refine hf_met rfl (by decide) (by decide) (by decide) ?_
  show hf_J M_X5_takeBehindOperand 0 [(0, 2, x0), (1, 0, x1)] [] _
  refine hf_ild_n (pc := 0) 1 rfl rfl dX5_takeBehindOperand_0 ?_
  refine hf_iconst (pc := 1) dX5_takeBehindOperand_1 ?_
  refine hf_icmp_ne (pc := 2) 10 dX5_takeBehindOperand_2 rfl ?_ ?_
  · refine hf_ild_n (pc := 10) 1 rfl rfl dX5_takeBehindOperand_10 ?_
    refine hf_cS (pc := 11) (N := M_X9_isComparison) (ts := [0]) (vs := [x1]) (st := []) (fun r => [(0, r)]) (c_X9_isComparison x1) cal_X9_isComparison ml_X5_133 ⟨hf_le rfl, hf_le rfl⟩ (hf_le rfl) ⟨rfl, rfl⟩ rfl dX5_takeBehindOperand_11 (fun _ => rfl) (fun v11 => ?_)
    refine hf_if_eq (pc := 14) 31 dX5_takeBehindOperand_14 rfl ?_ ?_
    · exact hf_sub [0, 1] rfl (j_X5_takeBehindOperand_31 x0 x1)
    · refine hf_ald_n (pc := 17) 0 rfl rfl dX5_takeBehindOperand_17 ?_
      refine hf_getf (pc := 18) fl_X5_45 dX5_takeBehindOperand_18 (fun v18 => ?_)
      refine hf_ald_n (pc := 21) 0 rfl rfl dX5_takeBehindOperand_21 ?_
      refine hf_getf (pc := 22) fl_X5_42 dX5_takeBehindOperand_22 (fun v22 => ?_)
      refine hf_zald (pc := 25) dX5_takeBehindOperand_25 (fun v25 => ?_)
      refine hf_if_eq (pc := 26) 31 dX5_takeBehindOperand_26 rfl ?_ ?_
      · exact hf_sub [0, 1] rfl (j_X5_takeBehindOperand_31 x0 x1)
      · refine hf_iconst (pc := 29) dX5_takeBehindOperand_29 ?_
        exact hf_Jret (pc := 30) dX5_takeBehindOperand_30 (fun _ => rfl)
  · refine hf_ald_n (pc := 5) 0 rfl rfl dX5_takeBehindOperand_5 ?_
    refine hf_cV (pc := 6) (N := M_X5_takeClose) (ts := []) (vs := []) (st := []) (fun r => [(0, r)]) (c_X5_takeClose x0) cal_X5_takeClose ml_X5_130 ⟨hf_le rfl, hf_le rfl⟩ (hf_le rfl) ⟨rfl, rfl⟩ rfl dX5_takeBehindOperand_6 (fun _ => rfl) (fun v6 => ?_)
    exact hf_Jret (pc := 9) dX5_takeBehindOperand_9 (fun _ => rfl)
/-! PlanReader.take(I)I -/
def M_X5_take : hf_D := (yX5_take, cX5_take, 2, some .int, 5, 103)
def f_X5_take (x0 x1 : Int) : hf_M Int :=
  hf_bd (hf_gf 5 6 x0) (fun v1 => hf_ck (hf_inI v1) (hf_it (v1 = 0) (hf_bd (hf_ob 5 x0 (f_X5_takeAtLine x0 x1)) (fun v34 => hf_ret v34)) (hf_it (v1 = 1) (hf_bd (hf_ob 5 x0 (f_X5_takeKind x0 x1)) (fun v40 => hf_ret v40)) (hf_it (v1 = 2) (hf_bd (hf_ob 5 x0 (f_X5_takeOperand x0 x1)) (fun v46 => hf_ret v46)) (hf_bd (hf_ob 5 x0 (f_X5_takeBehindOperand x0 x1)) (fun v52 => hf_ret v52))))))
theorem cal_X5_take : hf_cv M_X5_take 5 1 := ⟨⟨ii_X5, kc_X5_take, by decide, by decide, by decide +kernel⟩, ki_X5_take, kv_X5_take, _, rfl, rfl⟩
set_option maxRecDepth 20000 in
theorem c_X5_take (x0 x1 : Int) : hf_Met M_X5_take [2, 0] [x0, x1] (f_X5_take x0 x1) := by
  refine hf_met rfl (by decide) (by decide) (by decide) ?_
  show hf_J M_X5_take 0 [(0, 2, x0), (1, 0, x1)] [] _
  refine hf_ald_n (pc := 0) 0 rfl rfl dX5_take_0 ?_
  refine hf_getf (pc := 1) fl_X5_39 dX5_take_1 (fun v1 => ?_)
  refine hf_Jck (fun hr => ?_)
  refine hf_Jit (fun hc0 => ?_) (fun hc0 => ?_)
  · refine hf_tsw (pc := 4) 32 28 hr dX5_take_4 (by omega) (by omega) (by rw [hc0]; rfl) rfl ?_
    refine hf_ald_n (pc := 32) 0 rfl rfl dX5_take_32 ?_
    refine hf_ild_n (pc := 33) 1 rfl rfl dX5_take_33 ?_
    refine hf_cV (pc := 34) (N := M_X5_takeAtLine) (ts := [0]) (vs := [x1]) (st := []) (fun r => [(0, r)]) (c_X5_takeAtLine x0 x1) cal_X5_takeAtLine ml_X5_82 ⟨hf_le rfl, hf_le rfl⟩ (hf_le rfl) ⟨rfl, rfl⟩ rfl dX5_take_34 (fun _ => rfl) (fun v34 => ?_)
    exact hf_Jret (pc := 37) dX5_take_37 (fun _ => rfl)
  · refine hf_Jit (fun hc1 => ?_) (fun hc1 => ?_)
    · refine hf_tsw (pc := 4) 38 34 hr dX5_take_4 (by omega) (by omega) (by rw [hc1]; rfl) rfl ?_
      refine hf_ald_n (pc := 38) 0 rfl rfl dX5_take_38 ?_
      refine hf_ild_n (pc := 39) 1 rfl rfl dX5_take_39 ?_
      refine hf_cV (pc := 40) (N := M_X5_takeKind) (ts := [0]) (vs := [x1]) (st := []) (fun r => [(0, r)]) (c_X5_takeKind x0 x1) cal_X5_takeKind ml_X5_85 ⟨hf_le rfl, hf_le rfl⟩ (hf_le rfl) ⟨rfl, rfl⟩ rfl dX5_take_40 (fun _ => rfl) (fun v40 => ?_)
      exact hf_Jret (pc := 43) dX5_take_43 (fun _ => rfl)
    · refine hf_Jit (fun hc2 => ?_) (fun hc2 => ?_)
      · refine hf_tsw (pc := 4) 44 40 hr dX5_take_4 (by omega) (by omega) (by rw [hc2]; rfl) rfl ?_
        refine hf_ald_n (pc := 44) 0 rfl rfl dX5_take_44 ?_
        refine hf_ild_n (pc := 45) 1 rfl rfl dX5_take_45 ?_
        refine hf_cV (pc := 46) (N := M_X5_takeOperand) (ts := [0]) (vs := [x1]) (st := []) (fun r => [(0, r)]) (c_X5_takeOperand x0 x1) cal_X5_takeOperand ml_X5_88 ⟨hf_le rfl, hf_le rfl⟩ (hf_le rfl) ⟨rfl, rfl⟩ rfl dX5_take_46 (fun _ => rfl) (fun v46 => ?_)
        exact hf_Jret (pc := 49) dX5_take_49 (fun _ => rfl)
      · refine hf_tswd (pc := 4) 50 hr dX5_take_4 (by omega) rfl ?_
        refine hf_ald_n (pc := 50) 0 rfl rfl dX5_take_50 ?_
        refine hf_ild_n (pc := 51) 1 rfl rfl dX5_take_51 ?_
        refine hf_cV (pc := 52) (N := M_X5_takeBehindOperand) (ts := [0]) (vs := [x1]) (st := []) (fun r => [(0, r)]) (c_X5_takeBehindOperand x0 x1) cal_X5_takeBehindOperand ml_X5_91 ⟨hf_le rfl, hf_le rfl⟩ (hf_le rfl) ⟨rfl, rfl⟩ rfl dX5_take_52 (fun _ => rfl) (fun v52 => ?_)
        exact hf_Jret (pc := 55) dX5_take_55 (fun _ => rfl)
/-! Reckoner.push(J)V -/
def M_X7_push : hf_D := (yX7_push, cX7_push, 3, none, 0, 0)
def f_X7_push_51 (x0 : Int) : hf_M Int :=
  hf_bd (hf_pf 7 2 x0 1) (fun _ => hf_ret 0)
def f_X7_push (x0 x1 : Int) : hf_M Int :=
  hf_bd (hf_gf 7 1 x0) (fun v1 => hf_bd (hf_gf 7 0 x0) (fun v5 => hf_bd (hf_an 21 v5) (fun v8 => hf_cb v1 v8 (v8 ≤ v1) (f_X7_push_51 x0) (hf_cl x1 1000000000000 (1000000000000 < x1) (f_X7_push_51 x0) (hf_cl x1 (-1000000000000) (x1 < (-1000000000000)) (f_X7_push_51 x0) (hf_bd (hf_gf 7 0 x0) (fun v29 => hf_bd (hf_gf 7 1 x0) (fun v33 => hf_bd (hf_as 21 v29 v33 x1) (fun _ => hf_bd (hf_gf 7 1 x0) (fun v40 => hf_bd (hf_pf 7 1 x0 (v40 + 1)) (fun _ => hf_ret 0)))))))))))
theorem cal_X7_push : hf_cv M_X7_push 7 1 := ⟨⟨ii_X7, kc_X7_push, by decide, by decide, by decide +kernel⟩, ki_X7_push, kv_X7_push, _, rfl, rfl⟩
set_option maxRecDepth 20000 in
theorem j_X7_push_51 (x0 : Int) : hf_J M_X7_push 51 [(0, 2, x0)] [] (f_X7_push_51 x0) := by
  refine hf_ald_n (pc := 51) 0 rfl rfl dX7_push_51 ?_
  refine hf_iconst (pc := 52) dX7_push_52 ?_
  refine hf_putf (pc := 53) fl_X7_19 (Or.inr rfl) dX7_push_53 ?_
  exact hf_Jret (pc := 56) dX7_push_56 (fun _ => rfl)
set_option maxRecDepth 20000 in
theorem c_X7_push (x0 x1 : Int) : hf_Met M_X7_push [2, 1] [x0, x1] (f_X7_push x0 x1) := by
  refine hf_met rfl (by decide) (by decide) (by decide) ?_
  show hf_J M_X7_push 0 [(0, 2, x0), (1, 1, x1)] [] _
  refine hf_ald_n (pc := 0) 0 rfl rfl dX7_push_0 ?_
  refine hf_getf (pc := 1) fl_X7_15 dX7_push_1 (fun v1 => ?_)
  refine hf_ald_n (pc := 4) 0 rfl rfl dX7_push_4 ?_
  refine hf_getf (pc := 5) fl_X7_9 dX7_push_5 (fun v5 => ?_)
  refine hf_alen (pc := 8) 21 (by decide) (by decide) dX7_push_8 (fun v8 => ?_)
  refine hf_icmp_ge (pc := 9) 51 dX7_push_9 rfl ?_ ?_
  · exact hf_sub [0] rfl (j_X7_push_51 x0)
  · refine hf_lld_n (pc := 12) 1 rfl rfl dX7_push_12 ?_
    refine hf_ldc2 (pc := 13) (n := 1000000000000) co_X7_49 (by decide) dX7_push_13 ?_
    refine hf_lcm_gt (pc := 16) 51 dX7_push_16 dX7_push_17 rfl ?_ ?_
    · exact hf_sub [0] rfl (j_X7_push_51 x0)
    · refine hf_lld_n (pc := 20) 1 rfl rfl dX7_push_20 ?_
      refine hf_ldc2 (pc := 21) (n := (-1000000000000)) co_X7_51 (by decide) dX7_push_21 ?_
      refine hf_lcm_lt (pc := 24) 51 dX7_push_24 dX7_push_25 rfl ?_ ?_
      · exact hf_sub [0] rfl (j_X7_push_51 x0)
      · refine hf_ald_n (pc := 28) 0 rfl rfl dX7_push_28 ?_
        refine hf_getf (pc := 29) fl_X7_9 dX7_push_29 (fun v29 => ?_)
        refine hf_ald_n (pc := 32) 0 rfl rfl dX7_push_32 ?_
        refine hf_getf (pc := 33) fl_X7_15 dX7_push_33 (fun v33 => ?_)
        refine hf_lld_n (pc := 36) 1 rfl rfl dX7_push_36 ?_
        refine hf_last (pc := 37) dX7_push_37 ?_
        refine hf_ald_n (pc := 38) 0 rfl rfl dX7_push_38 ?_
        refine hf_dup (pc := 39) (by decide) dX7_push_39 ?_
        refine hf_getf (pc := 40) fl_X7_15 dX7_push_40 (fun v40 => ?_)
        refine hf_iconst (pc := 43) dX7_push_43 ?_
        refine hf_iadd (pc := 44) dX7_push_44 ?_
        refine hf_putf (pc := 45) fl_X7_15 trivial dX7_push_45 ?_
        refine hf_goto (pc := 48) 56 dX7_push_48 rfl ?_
        exact hf_Jret (pc := 56) dX7_push_56 (fun _ => rfl)
/-! Reckoner.valueOfName(ILHighFall$Course;)J -/
def M_X7_valueOfName : hf_D := (yX7_valueOfName, cX7_valueOfName, 2, some .long, 1, 20)
def f_X7_valueOfName (x0 x1 : Int) : hf_M Int :=
  hf_ck (hf_inI x0) (hf_it (x0 = 12) (hf_bd (hf_gf 1 9 x1) (fun v49 => hf_ck (hf_inI v49) (hf_ret v49))) (hf_it (x0 = 13) (hf_bd (hf_gf 1 10 x1) (fun v55 => hf_ck (hf_inI v55) (hf_ret v55))) (hf_it (x0 = 14) (hf_bd (hf_gf 1 10 x1) (fun v61 => hf_bd (hf_gf 1 9 x1) (fun v65 => hf_ck (hf_inI (v61 - v65)) (hf_ret (v61 - v65))))) (hf_it (x0 = 15) (hf_bd (hf_gf 1 11 x1) (fun v72 => hf_ck (hf_inI v72) (hf_ret v72))) (hf_it (x0 = 16) (hf_bd (hf_ob 1 x1 (f_X1_lastStep x1)) (fun v78 => hf_ck (hf_inI v78) (hf_ret v78))) (hf_it (x0 = 17) (hf_bd (hf_ob 1 x1 (f_X1_lastBroke x1)) (fun v84 => hf_ck (hf_inI v84) (hf_ret v84))) (hf_it (x0 = 18) (hf_bd (hf_gf 1 7 x1) (fun v90 => hf_bd (hf_al 20 v90 0) (fun v94 => hf_ck (hf_inI v94) (hf_ret v94)))) (hf_it (x0 = 19) (hf_bd (hf_gf 1 7 x1) (fun v98 => hf_bd (hf_al 20 v98 1) (fun v102 => hf_ck (hf_inI v102) (hf_ret v102)))) (hf_bd (hf_gf 1 7 x1) (fun v106 => hf_bd (hf_al 20 v106 2) (fun v110 => hf_ck (hf_inI v110) (hf_ret v110))))))))))))
theorem cal_X7_valueOfName : hf_csx M_X7_valueOfName 2 := ⟨⟨ii_X7, kc_X7_valueOfName, by decide, by decide, by decide +kernel⟩, ks_X7_valueOfName⟩
set_option maxRecDepth 20000 in
theorem c_X7_valueOfName (x0 x1 : Int) : hf_Met M_X7_valueOfName [0, 2] [x0, x1] (f_X7_valueOfName x0 x1) := by
  refine hf_met rfl (by decide) (by decide) (by decide) ?_
  show hf_J M_X7_valueOfName 0 [(0, 0, x0), (1, 2, x1)] [] _
  refine hf_ild_n (pc := 0) 0 rfl rfl dX7_valueOfName_0 ?_
  refine hf_Jck (fun hr => ?_)
  refine hf_Jit (fun hc0 => ?_) (fun hc0 => ?_)
  · refine hf_tsw (pc := 1) 48 47 hr dX7_valueOfName_1 (by omega) (by omega) (by rw [hc0]; rfl) rfl ?_
    refine hf_ald_n (pc := 48) 1 rfl rfl dX7_valueOfName_48 ?_
    refine hf_getf (pc := 49) fl_X7_53 dX7_valueOfName_49 (fun v49 => ?_)
    refine hf_i2l (pc := 52) dX7_valueOfName_52 ?_
    exact hf_Jret (pc := 53) dX7_valueOfName_53 (fun _ => rfl)
  · refine hf_Jit (fun hc1 => ?_) (fun hc1 => ?_)
    · refine hf_tsw (pc := 1) 54 53 hr dX7_valueOfName_1 (by omega) (by omega) (by rw [hc1]; rfl) rfl ?_
      refine hf_ald_n (pc := 54) 1 rfl rfl dX7_valueOfName_54 ?_
      refine hf_getf (pc := 55) fl_X7_58 dX7_valueOfName_55 (fun v55 => ?_)
      refine hf_i2l (pc := 58) dX7_valueOfName_58 ?_
      exact hf_Jret (pc := 59) dX7_valueOfName_59 (fun _ => rfl)
    · refine hf_Jit (fun hc2 => ?_) (fun hc2 => ?_)
      · refine hf_tsw (pc := 1) 60 59 hr dX7_valueOfName_1 (by omega) (by omega) (by rw [hc2]; rfl) rfl ?_
        refine hf_ald_n (pc := 60) 1 rfl rfl dX7_valueOfName_60 ?_
        refine hf_getf (pc := 61) fl_X7_58 dX7_valueOfName_61 (fun v61 => ?_)
        refine hf_ald_n (pc := 64) 1 rfl rfl dX7_valueOfName_64 ?_
        refine hf_getf (pc := 65) fl_X7_53 dX7_valueOfName_65 (fun v65 => ?_)
        refine hf_isub (pc := 68) dX7_valueOfName_68 ?_
        refine hf_i2l (pc := 69) dX7_valueOfName_69 ?_
        exact hf_Jret (pc := 70) dX7_valueOfName_70 (fun _ => rfl)
      · refine hf_Jit (fun hc3 => ?_) (fun hc3 => ?_)
        · refine hf_tsw (pc := 1) 71 70 hr dX7_valueOfName_1 (by omega) (by omega) (by rw [hc3]; rfl) rfl ?_
          refine hf_ald_n (pc := 71) 1 rfl rfl dX7_valueOfName_71 ?_
          refine hf_getf (pc := 72) fl_X7_61 dX7_valueOfName_72 (fun v72 => ?_)
          refine hf_i2l (pc := 75) dX7_valueOfName_75 ?_
          exact hf_Jret (pc := 76) dX7_valueOfName_76 (fun _ => rfl)
        · refine hf_Jit (fun hc4 => ?_) (fun hc4 => ?_)
          · refine hf_tsw (pc := 1) 77 76 hr dX7_valueOfName_1 (by omega) (by omega) (by rw [hc4]; rfl) rfl ?_
            refine hf_ald_n (pc := 77) 1 rfl rfl dX7_valueOfName_77 ?_
            refine hf_cV (pc := 78) (N := M_X1_lastStep) (ts := []) (vs := []) (st := []) (fun r => [(0, r)]) (c_X1_lastStep x1) cal_X1_lastStep ml_X7_64 ⟨hf_le rfl, hf_le rfl⟩ (hf_le rfl) ⟨rfl, rfl⟩ rfl dX7_valueOfName_78 (fun _ => rfl) (fun v78 => ?_)
            refine hf_i2l (pc := 81) dX7_valueOfName_81 ?_
            exact hf_Jret (pc := 82) dX7_valueOfName_82 (fun _ => rfl)
          · refine hf_Jit (fun hc5 => ?_) (fun hc5 => ?_)
            · refine hf_tsw (pc := 1) 83 82 hr dX7_valueOfName_1 (by omega) (by omega) (by rw [hc5]; rfl) rfl ?_
              refine hf_ald_n (pc := 83) 1 rfl rfl dX7_valueOfName_83 ?_
              refine hf_cV (pc := 84) (N := M_X1_lastBroke) (ts := []) (vs := []) (st := []) (fun r => [(0, r)]) (c_X1_lastBroke x1) cal_X1_lastBroke ml_X7_68 ⟨hf_le rfl, hf_le rfl⟩ (hf_le rfl) ⟨rfl, rfl⟩ rfl dX7_valueOfName_84 (fun _ => rfl) (fun v84 => ?_)
              refine hf_i2l (pc := 87) dX7_valueOfName_87 ?_
              exact hf_Jret (pc := 88) dX7_valueOfName_88 (fun _ => rfl)
            · refine hf_Jit (fun hc6 => ?_) (fun hc6 => ?_)
              · refine hf_tsw (pc := 1) 89 88 hr dX7_valueOfName_1 (by omega) (by omega) (by rw [hc6]; rfl) rfl ?_
                refine hf_ald_n (pc := 89) 1 rfl rfl dX7_valueOfName_89 ?_
                refine hf_getf (pc := 90) fl_X7_71 dX7_valueOfName_90 (fun v90 => ?_)
                refine hf_iconst (pc := 93) dX7_valueOfName_93 ?_
                refine hf_iald (pc := 94) dX7_valueOfName_94 (fun v94 => ?_)
                refine hf_i2l (pc := 95) dX7_valueOfName_95 ?_
                exact hf_Jret (pc := 96) dX7_valueOfName_96 (fun _ => rfl)
              · refine hf_Jit (fun hc7 => ?_) (fun hc7 => ?_)
                · refine hf_tsw (pc := 1) 97 96 hr dX7_valueOfName_1 (by omega) (by omega) (by rw [hc7]; rfl) rfl ?_
                  refine hf_ald_n (pc := 97) 1 rfl rfl dX7_valueOfName_97 ?_
                  refine hf_getf (pc := 98) fl_X7_71 dX7_valueOfName_98 (fun v98 => ?_)
                  refine hf_iconst (pc := 101) dX7_valueOfName_101 ?_
                  refine hf_iald (pc := 102) dX7_valueOfName_102 (fun v102 => ?_)
                  refine hf_i2l (pc := 103) dX7_valueOfName_103 ?_
                  exact hf_Jret (pc := 104) dX7_valueOfName_104 (fun _ => rfl)
                · refine hf_tswd (pc := 1) 105 hr dX7_valueOfName_1 (by omega) rfl ?_
                  refine hf_ald_n (pc := 105) 1 rfl rfl dX7_valueOfName_105 ?_
                  refine hf_getf (pc := 106) fl_X7_71 dX7_valueOfName_106 (fun v106 => ?_)
                  refine hf_iconst (pc := 109) dX7_valueOfName_109 ?_
                  refine hf_iald (pc := 110) dX7_valueOfName_110 (fun v110 => ?_)
                  refine hf_i2l (pc := 111) dX7_valueOfName_111 ?_
                  exact hf_Jret (pc := 112) dX7_valueOfName_112 (fun _ => rfl)
/-! Reckoner.pop()J -/
def M_X7_pop : hf_D := (yX7_pop, cX7_pop, 1, some .long, 0, 0)
def f_X7_pop (x0 : Int) : hf_M Int :=
  hf_bd (hf_gf 7 1 x0) (fun v1 => hf_cz v1 (¬ v1 = 0) (hf_bd (hf_gf 7 1 x0) (fun v16 => hf_bd (hf_pf 7 1 x0 (v16 - 1)) (fun _ => hf_bd (hf_gf 7 0 x0) (fun v25 => hf_bd (hf_gf 7 1 x0) (fun v29 => hf_bd (hf_al 21 v25 v29) (fun v32 => hf_ret v32)))))) (hf_bd (hf_pf 7 2 x0 1) (fun _ => hf_ret 0)))
theorem cal_X7_pop : hf_cv M_X7_pop 7 0 := ⟨⟨ii_X7, kc_X7_pop, by decide, by decide, by decide +kernel⟩, ki_X7_pop, kv_X7_pop, _, rfl, rfl⟩
set_option maxRecDepth 20000 in
theorem c_X7_pop (x0 : Int) : hf_Met M_X7_pop [2] [x0] (f_X7_pop x0) := by
  refine hf_met rfl (by decide) (by decide) (by decide) ?_
  show hf_J M_X7_pop 0 [(0, 2, x0)] [] _
  refine hf_ald_n (pc := 0) 0 rfl rfl dX7_pop_0 ?_
  refine hf_getf (pc := 1) fl_X7_15 dX7_pop_1 (fun v1 => ?_)
  refine hf_if_ne (pc := 4) 14 dX7_pop_4 rfl ?_ ?_
  · refine hf_ald_n (pc := 14) 0 rfl rfl dX7_pop_14 ?_
    refine hf_dup (pc := 15) (by decide) dX7_pop_15 ?_
    refine hf_getf (pc := 16) fl_X7_15 dX7_pop_16 (fun v16 => ?_)
    refine hf_iconst (pc := 19) dX7_pop_19 ?_
    refine hf_isub (pc := 20) dX7_pop_20 ?_
    refine hf_putf (pc := 21) fl_X7_15 trivial dX7_pop_21 ?_
    refine hf_ald_n (pc := 24) 0 rfl rfl dX7_pop_24 ?_
    refine hf_getf (pc := 25) fl_X7_9 dX7_pop_25 (fun v25 => ?_)
    refine hf_ald_n (pc := 28) 0 rfl rfl dX7_pop_28 ?_
    refine hf_getf (pc := 29) fl_X7_15 dX7_pop_29 (fun v29 => ?_)
    refine hf_lald (pc := 32) dX7_pop_32 (fun v32 => ?_)
    exact hf_Jret (pc := 33) dX7_pop_33 (fun _ => rfl)
  · refine hf_ald_n (pc := 7) 0 rfl rfl dX7_pop_7 ?_
    refine hf_iconst (pc := 8) dX7_pop_8 ?_
    refine hf_putf (pc := 9) fl_X7_19 (Or.inr rfl) dX7_pop_9 ?_
    refine hf_lconst (pc := 12) (v := 0) dX7_pop_12 (by decide) ?_
    exact hf_Jret (pc := 13) dX7_pop_13 (fun _ => rfl)
/-! Reckoner.multiply(JJ)V -/
def M_X7_multiply : hf_D := (yX7_multiply, cX7_multiply, 5, none, 1, 24)
def f_X7_multiply_30 (x0 x1 x3 : Int) : hf_M Int :=
  hf_bd (hf_ob 7 x0 (f_X7_push x0 (x1 * x3))) (fun _ => hf_ret 0)
def f_X7_multiply (x0 x1 x3 : Int) : hf_M Int :=
  hf_cl x1 0 (x1 = 0) (f_X7_multiply_30 x0 x1 x3) (hf_ck (hf_inL x3) (hf_bd (hf_ret (if 0 < x3 then x3 else -x3)) (fun v7 => hf_ck (hf_inL x1) (hf_bd (hf_ret (if 0 < x1 then x1 else -x1)) (fun v14 => hf_bd (hf_dvl 1000000000000 v14) (fun v17 => hf_cl v7 v17 (v7 ≤ v17) (f_X7_multiply_30 x0 x1 x3) (hf_bd (hf_pf 7 2 x0 1) (fun _ => hf_ret 0))))))))
theorem cal_X7_multiply : hf_cv M_X7_multiply 7 2 := ⟨⟨ii_X7, kc_X7_multiply, by decide, by decide, by decide +kernel⟩, ki_X7_multiply, kv_X7_multiply, _, rfl, rfl⟩
set_option maxRecDepth 20000 in
theorem j_X7_multiply_30 (x0 x1 x3 : Int) : hf_J M_X7_multiply 30 [(0, 2, x0), (1, 1, x1), (3, 1, x3)] [] (f_X7_multiply_30 x0 x1 x3) := by
  refine hf_ald_n (pc := 30) 0 rfl rfl dX7_multiply_30 ?_
  refine hf_lld_n (pc := 31) 1 rfl rfl dX7_multiply_31 ?_
  refine hf_lld_n (pc := 32) 2 rfl rfl dX7_multiply_32 ?_
  refine hf_lmul (pc := 33) dX7_multiply_33 ?_
  refine hf_cV (pc := 34) (N := M_X7_push) (ts := [1]) (vs := [(x1 * x3)]) (st := []) (fun r => []) (c_X7_push x0 (x1 * x3)) cal_X7_push ml_X7_27 ⟨hf_le rfl, hf_le rfl⟩ (hf_le rfl) ⟨rfl, rfl⟩ rfl dX7_multiply_34 (fun _ => rfl) (fun _ => ?_)
  exact hf_Jret (pc := 37) dX7_multiply_37 (fun _ => rfl)
set_option maxRecDepth 20000 in
theorem c_X7_multiply (x0 x1 x3 : Int) : hf_Met M_X7_multiply [2, 1, 1] [x0, x1, x3] (f_X7_multiply x0 x1 x3) := by
  refine hf_met rfl (by decide) (by decide) (by decide) ?_
  show hf_J M_X7_multiply 0 [(0, 2, x0), (1, 1, x1), (3, 1, x3)] [] _
  refine hf_lld_n (pc := 0) 1 rfl rfl dX7_multiply_0 ?_
  refine hf_lconst (pc := 1) (v := 0) dX7_multiply_1 (by decide) ?_
  refine hf_lcm_eq (pc := 2) 30 dX7_multiply_2 dX7_multiply_3 rfl ?_ ?_
  · exact hf_sub [0, 1, 2] rfl (j_X7_multiply_30 x0 x1 x3)
  · refine hf_lld_n (pc := 6) 2 rfl rfl dX7_multiply_6 ?_
    refine hf_mabsl (pc := 7) ml_X7_85 ⟨hf_le rfl, hf_le rfl⟩ dX7_multiply_7 (fun v7 => ?_)
    refine hf_ldc2 (pc := 10) (n := 1000000000000) co_X7_49 (by decide) dX7_multiply_10 ?_
    refine hf_lld_n (pc := 13) 1 rfl rfl dX7_multiply_13 ?_
    refine hf_mabsl (pc := 14) ml_X7_85 ⟨hf_le rfl, hf_le rfl⟩ dX7_multiply_14 (fun v14 => ?_)
    refine hf_ldiv (pc := 17) dX7_multiply_17 (fun v17 => ?_)
    refine hf_lcm_le (pc := 18) 30 dX7_multiply_18 dX7_multiply_19 rfl ?_ ?_
    · exact hf_sub [0, 1, 2] rfl (j_X7_multiply_30 x0 x1 x3)
    · refine hf_ald_n (pc := 22) 0 rfl rfl dX7_multiply_22 ?_
      refine hf_iconst (pc := 23) dX7_multiply_23 ?_
      refine hf_putf (pc := 24) fl_X7_19 (Or.inr rfl) dX7_multiply_24 ?_
      refine hf_goto (pc := 27) 37 dX7_multiply_27 rfl ?_
      exact hf_Jret (pc := 37) dX7_multiply_37 (fun _ => rfl)
/-! Reckoner.divide(JJ)V -/
def M_X7_divide : hf_D := (yX7_divide, cX7_divide, 5, none, 1, 22)
def f_X7_divide (x0 x1 x3 : Int) : hf_M Int :=
  hf_cl x3 0 (¬ x3 = 0) (hf_bd (hf_dvl x1 x3) (fun v17 => hf_bd (hf_ob 7 x0 (f_X7_push x0 v17)) (fun _ => hf_ret 0))) (hf_bd (hf_pf 7 2 x0 1) (fun _ => hf_ret 0))
theorem cal_X7_divide : hf_cv M_X7_divide 7 2 := ⟨⟨ii_X7, kc_X7_divide, by decide, by decide, by decide +kernel⟩, ki_X7_divide, kv_X7_divide, _, rfl, rfl⟩
set_option maxRecDepth 20000 in
theorem c_X7_divide (x0 x1 x3 : Int) : hf_Met M_X7_divide [2, 1, 1] [x0, x1, x3] (f_X7_divide x0 x1 x3) := by
  refine hf_met rfl (by decide) (by decide) (by decide) ?_
  show hf_J M_X7_divide 0 [(0, 2, x0), (1, 1, x1), (3, 1, x3)] [] _
  refine hf_lld_n (pc := 0) 2 rfl rfl dX7_divide_0 ?_
  refine hf_lconst (pc := 1) (v := 0) dX7_divide_1 (by decide) ?_
  refine hf_lcm_ne (pc := 2) 14 dX7_divide_2 dX7_divide_3 rfl ?_ ?_
  · refine hf_ald_n (pc := 14) 0 rfl rfl dX7_divide_14 ?_
    refine hf_lld_n (pc := 15) 1 rfl rfl dX7_divide_15 ?_
    refine hf_lld_n (pc := 16) 2 rfl rfl dX7_divide_16 ?_
    refine hf_ldiv (pc := 17) dX7_divide_17 (fun v17 => ?_)
    refine hf_cV (pc := 18) (N := M_X7_push) (ts := [1]) (vs := [v17]) (st := []) (fun r => []) (c_X7_push x0 v17) cal_X7_push ml_X7_27 ⟨hf_le rfl, hf_le rfl⟩ (hf_le rfl) ⟨rfl, rfl⟩ rfl dX7_divide_18 (fun _ => rfl) (fun _ => ?_)
    exact hf_Jret (pc := 21) dX7_divide_21 (fun _ => rfl)
  · refine hf_ald_n (pc := 6) 0 rfl rfl dX7_divide_6 ?_
    refine hf_iconst (pc := 7) dX7_divide_7 ?_
    refine hf_putf (pc := 8) fl_X7_19 (Or.inr rfl) dX7_divide_8 ?_
    refine hf_goto (pc := 11) 21 dX7_divide_11 rfl ?_
    exact hf_Jret (pc := 21) dX7_divide_21 (fun _ => rfl)
/-! Reckoner.holds(IJJ)Z -/
def M_X7_holds : hf_D := (yX7_holds, cX7_holds, 5, some .boolean, 0, 0)
def f_X7_holds (x0 x1 x3 : Int) : hf_M Int :=
  hf_ck (hf_inI x0) (hf_it (x0 = 10) (hf_cl x1 0 (¬ x1 = 0) (hf_ret 1) (hf_cl x3 0 (x3 = 0) (hf_ret 0) (hf_ret 1))) (hf_it (x0 = 11) (hf_cl x1 0 (x1 = 0) (hf_ret 0) (hf_cl x3 0 (x3 = 0) (hf_ret 0) (hf_ret 1))) (hf_it (x0 = 21) (hf_ck (hf_inL x1 ∧ hf_inL x3) (hf_bd (hf_ret (if x3 ≤ x1 then 0 else 1)) (fun w127 => hf_ck (w127 = 0 ∨ w127 = 1) (hf_ret w127)))) (hf_it (x0 = 22) (hf_ck (hf_inL x1 ∧ hf_inL x3) (hf_bd (hf_ret (if x3 < x1 then 0 else 1)) (fun w139 => hf_ck (w139 = 0 ∨ w139 = 1) (hf_ret w139)))) (hf_it (x0 = 23) (hf_ck (hf_inL x1 ∧ hf_inL x3) (hf_bd (hf_ret (if ¬ x1 = x3 then 0 else 1)) (fun w151 => hf_ck (w151 = 0 ∨ w151 = 1) (hf_ret w151)))) (hf_it (x0 = 24) (hf_ck (hf_inL x1 ∧ hf_inL x3) (hf_bd (hf_ret (if x1 = x3 then 0 else 1)) (fun w163 => hf_ck (w163 = 0 ∨ w163 = 1) (hf_ret w163)))) (hf_it (x0 = 25) (hf_ck (hf_inL x1 ∧ hf_inL x3) (hf_bd (hf_ret (if x1 < x3 then 0 else 1)) (fun w175 => hf_ck (w175 = 0 ∨ w175 = 1) (hf_ret w175)))) (hf_ck (hf_inL x1 ∧ hf_inL x3) (hf_bd (hf_ret (if x1 ≤ x3 then 0 else 1)) (fun w187 => hf_ck (w187 = 0 ∨ w187 = 1) (hf_ret w187)))))))))))
theorem cal_X7_holds : hf_csx M_X7_holds 3 := ⟨⟨ii_X7, kc_X7_holds, by decide, by decide, by decide +kernel⟩, ks_X7_holds⟩
set_option maxRecDepth 20000 in
theorem c_X7_holds (x0 x1 x3 : Int) : hf_Met M_X7_holds [0, 1, 1] [x0, x1, x3] (f_X7_holds x0 x1 x3) := by
  refine hf_met rfl (by decide) (by decide) (by decide) ?_
  show hf_J M_X7_holds 0 [(0, 0, x0), (1, 1, x1), (3, 1, x3)] [] _
  refine hf_ild_n (pc := 0) 0 rfl rfl dX7_holds_0 ?_
  refine hf_Jck (fun hr => ?_)
  refine hf_Jit (fun hc0 => ?_) (fun hc0 => ?_)
  · refine hf_tsw (pc := 1) 80 79 hr dX7_holds_1 (by omega) (by omega) (by rw [hc0]; rfl) rfl ?_
    refine hf_lld_n (pc := 80) 1 rfl rfl dX7_holds_80 ?_
    refine hf_lconst (pc := 81) (v := 0) dX7_holds_81 (by decide) ?_
    refine hf_lcm_ne (pc := 82) 92 dX7_holds_82 dX7_holds_83 rfl ?_ ?_
    · refine hf_iconst (pc := 92) dX7_holds_92 ?_
      refine hf_goto (pc := 93) 97 dX7_holds_93 rfl ?_
      exact hf_Jret (pc := 97) (r := 1) ⟨dX7_holds_97, Or.inr rfl⟩ (fun _ => rfl)
    · refine hf_lld_n (pc := 86) 2 rfl rfl dX7_holds_86 ?_
      refine hf_lconst (pc := 87) (v := 0) dX7_holds_87 (by decide) ?_
      refine hf_lcm_eq (pc := 88) 96 dX7_holds_88 dX7_holds_89 rfl ?_ ?_
      · refine hf_iconst (pc := 96) dX7_holds_96 ?_
        exact hf_Jret (pc := 97) (r := 0) ⟨dX7_holds_97, Or.inl rfl⟩ (fun _ => rfl)
      · refine hf_iconst (pc := 92) dX7_holds_92 ?_
        refine hf_goto (pc := 93) 97 dX7_holds_93 rfl ?_
        exact hf_Jret (pc := 97) (r := 1) ⟨dX7_holds_97, Or.inr rfl⟩ (fun _ => rfl)
  · refine hf_Jit (fun hc1 => ?_) (fun hc1 => ?_)
    · refine hf_tsw (pc := 1) 98 97 hr dX7_holds_1 (by omega) (by omega) (by rw [hc1]; rfl) rfl ?_
      refine hf_lld_n (pc := 98) 1 rfl rfl dX7_holds_98 ?_
      refine hf_lconst (pc := 99) (v := 0) dX7_holds_99 (by decide) ?_
      refine hf_lcm_eq (pc := 100) 114 dX7_holds_100 dX7_holds_101 rfl ?_ ?_
      · refine hf_iconst (pc := 114) dX7_holds_114 ?_
        exact hf_Jret (pc := 115) (r := 0) ⟨dX7_holds_115, Or.inl rfl⟩ (fun _ => rfl)
      · refine hf_lld_n (pc := 104) 2 rfl rfl dX7_holds_104 ?_
        refine hf_lconst (pc := 105) (v := 0) dX7_holds_105 (by decide) ?_
        refine hf_lcm_eq (pc := 106) 114 dX7_holds_106 dX7_holds_107 rfl ?_ ?_
        · refine hf_iconst (pc := 114) dX7_holds_114 ?_
          exact hf_Jret (pc := 115) (r := 0) ⟨dX7_holds_115, Or.inl rfl⟩ (fun _ => rfl)
        · refine hf_iconst (pc := 110) dX7_holds_110 ?_
          refine hf_goto (pc := 111) 115 dX7_holds_111 rfl ?_
          exact hf_Jret (pc := 115) (r := 1) ⟨dX7_holds_115, Or.inr rfl⟩ (fun _ => rfl)
    · refine hf_Jit (fun hc2 => ?_) (fun hc2 => ?_)
      · refine hf_tsw (pc := 1) 116 115 hr dX7_holds_1 (by omega) (by omega) (by rw [hc2]; rfl) rfl ?_
        refine hf_lld_n (pc := 116) 1 rfl rfl dX7_holds_116 ?_
        refine hf_lld_n (pc := 117) 2 rfl rfl dX7_holds_117 ?_
        refine hf_Jdil (pc := 118) (pcM := 127) (t := 0) (stM := []) (fun w127 => ?_) (fun a1 a2 => ?_)
        · refine hf_Jck (fun hz => ?_)
          exact hf_Jret (pc := 127) ⟨dX7_holds_127, hz⟩ (fun _ => rfl)
        · refine hf_lcm_ge (pc := 118) 126 dX7_holds_118 dX7_holds_119 rfl ?_ ?_
          · refine hf_iconst (pc := 126) dX7_holds_126 ?_
            exact a1
          · refine hf_iconst (pc := 122) dX7_holds_122 ?_
            refine hf_goto (pc := 123) 127 dX7_holds_123 rfl ?_
            exact a2
      · refine hf_Jit (fun hc3 => ?_) (fun hc3 => ?_)
        · refine hf_tsw (pc := 1) 128 127 hr dX7_holds_1 (by omega) (by omega) (by rw [hc3]; rfl) rfl ?_
          refine hf_lld_n (pc := 128) 1 rfl rfl dX7_holds_128 ?_
          refine hf_lld_n (pc := 129) 2 rfl rfl dX7_holds_129 ?_
          refine hf_Jdil (pc := 130) (pcM := 139) (t := 0) (stM := []) (fun w139 => ?_) (fun a1 a2 => ?_)
          · refine hf_Jck (fun hz => ?_)
            exact hf_Jret (pc := 139) ⟨dX7_holds_139, hz⟩ (fun _ => rfl)
          · refine hf_lcm_gt (pc := 130) 138 dX7_holds_130 dX7_holds_131 rfl ?_ ?_
            · refine hf_iconst (pc := 138) dX7_holds_138 ?_
              exact a1
            · refine hf_iconst (pc := 134) dX7_holds_134 ?_
              refine hf_goto (pc := 135) 139 dX7_holds_135 rfl ?_
              exact a2
        · refine hf_Jit (fun hc4 => ?_) (fun hc4 => ?_)
          · refine hf_tsw (pc := 1) 140 139 hr dX7_holds_1 (by omega) (by omega) (by rw [hc4]; rfl) rfl ?_
            refine hf_lld_n (pc := 140) 1 rfl rfl dX7_holds_140 ?_
            refine hf_lld_n (pc := 141) 2 rfl rfl dX7_holds_141 ?_
            refine hf_Jdil (pc := 142) (pcM := 151) (t := 0) (stM := []) (fun w151 => ?_) (fun a1 a2 => ?_)
            · refine hf_Jck (fun hz => ?_)
              exact hf_Jret (pc := 151) ⟨dX7_holds_151, hz⟩ (fun _ => rfl)
            · refine hf_lcm_ne (pc := 142) 150 dX7_holds_142 dX7_holds_143 rfl ?_ ?_
              · refine hf_iconst (pc := 150) dX7_holds_150 ?_
                exact a1
              · refine hf_iconst (pc := 146) dX7_holds_146 ?_
                refine hf_goto (pc := 147) 151 dX7_holds_147 rfl ?_
                exact a2
          · refine hf_Jit (fun hc5 => ?_) (fun hc5 => ?_)
            · refine hf_tsw (pc := 1) 152 151 hr dX7_holds_1 (by omega) (by omega) (by rw [hc5]; rfl) rfl ?_
              refine hf_lld_n (pc := 152) 1 rfl rfl dX7_holds_152 ?_
              refine hf_lld_n (pc := 153) 2 rfl rfl dX7_holds_153 ?_
              refine hf_Jdil (pc := 154) (pcM := 163) (t := 0) (stM := []) (fun w163 => ?_) (fun a1 a2 => ?_)
              · refine hf_Jck (fun hz => ?_)
                exact hf_Jret (pc := 163) ⟨dX7_holds_163, hz⟩ (fun _ => rfl)
              · refine hf_lcm_eq (pc := 154) 162 dX7_holds_154 dX7_holds_155 rfl ?_ ?_
                · refine hf_iconst (pc := 162) dX7_holds_162 ?_
                  exact a1
                · refine hf_iconst (pc := 158) dX7_holds_158 ?_
                  refine hf_goto (pc := 159) 163 dX7_holds_159 rfl ?_
                  exact a2
            · refine hf_Jit (fun hc6 => ?_) (fun hc6 => ?_)
              · refine hf_tsw (pc := 1) 164 163 hr dX7_holds_1 (by omega) (by omega) (by rw [hc6]; rfl) rfl ?_
                refine hf_lld_n (pc := 164) 1 rfl rfl dX7_holds_164 ?_
                refine hf_lld_n (pc := 165) 2 rfl rfl dX7_holds_165 ?_
                refine hf_Jdil (pc := 166) (pcM := 175) (t := 0) (stM := []) (fun w175 => ?_) (fun a1 a2 => ?_)
                · refine hf_Jck (fun hz => ?_)
                  exact hf_Jret (pc := 175) ⟨dX7_holds_175, hz⟩ (fun _ => rfl)
                · refine hf_lcm_lt (pc := 166) 174 dX7_holds_166 dX7_holds_167 rfl ?_ ?_
                  · refine hf_iconst (pc := 174) dX7_holds_174 ?_
                    exact a1
                  · refine hf_iconst (pc := 170) dX7_holds_170 ?_
                    refine hf_goto (pc := 171) 175 dX7_holds_171 rfl ?_
                    exact a2
              · have hg : x0 < 10 ∨ 25 < x0 ∨ x0 = 12 ∨ x0 = 13 ∨ x0 = 14 ∨ x0 = 15 ∨ x0 = 16 ∨ x0 = 17 ∨ x0 = 18 ∨ x0 = 19 ∨ x0 = 20 := by omega
                refine hf_tswg (pc := 1) 176 hr dX7_holds_1 (by rcases hg with hg | hg | hg | hg | hg | hg | hg | hg | hg | hg | hg <;> first | exact Or.inl hg | exact Or.inr (Or.inl hg) | (rw [hg]; exact Or.inr (Or.inr rfl))) rfl ?_
                refine hf_lld_n (pc := 176) 1 rfl rfl dX7_holds_176 ?_
                refine hf_lld_n (pc := 177) 2 rfl rfl dX7_holds_177 ?_
                refine hf_Jdil (pc := 178) (pcM := 187) (t := 0) (stM := []) (fun w187 => ?_) (fun a1 a2 => ?_)
                · refine hf_Jck (fun hz => ?_)
                  exact hf_Jret (pc := 187) ⟨dX7_holds_187, hz⟩ (fun _ => rfl)
                · refine hf_lcm_le (pc := 178) 186 dX7_holds_178 dX7_holds_179 rfl ?_ ?_
                  · refine hf_iconst (pc := 186) dX7_holds_186 ?_
                    exact a1
                  · refine hf_iconst (pc := 182) dX7_holds_182 ?_
                    refine hf_goto (pc := 183) 187 dX7_holds_183 rfl ?_
                    exact a2
/-! Reckoner.operate(I)V -/
def M_X7_operate : hf_D := (yX7_operate, cX7_operate, 6, none, 2, 48)
def f_X7_operate (x0 x1 : Int) : hf_M Int :=
  hf_bd (hf_ob 7 x0 (f_X7_pop x0)) (fun v1 => hf_cb x1 9 (¬ x1 = 9) (hf_bd (hf_ob 7 x0 (f_X7_pop x0)) (fun v28 => hf_ck (hf_inI x1) (hf_it (x1 = 27) (hf_bd (hf_ob 7 x0 (f_X7_push x0 (v28 + v1))) (fun _ => hf_ret 0)) (hf_it (x1 = 28) (hf_bd (hf_ob 7 x0 (f_X7_push x0 (v28 - v1))) (fun _ => hf_ret 0)) (hf_it (x1 = 29) (hf_bd (hf_ob 7 x0 (f_X7_multiply x0 v28 v1)) (fun _ => hf_ret 0)) (hf_it (x1 = 30) (hf_bd (hf_ob 7 x0 (f_X7_divide x0 v28 v1)) (fun _ => hf_ret 0)) (hf_bd (f_X7_holds x1 v28 v1) (fun v111 => hf_ck (hf_inI v111) (hf_bd (hf_ret (if v111 = 0 then 0 else 1)) (fun w122 => hf_bd (hf_ob 7 x0 (f_X7_push x0 w122)) (fun _ => hf_ret 0))))))))))) (hf_ck (hf_inL v1 ∧ hf_inL 0) (hf_bd (hf_ret (if ¬ v1 = 0 then 0 else 1)) (fun w23 => hf_bd (hf_ob 7 x0 (f_X7_push x0 w23)) (fun _ => hf_ret 0)))))
theorem cal_X7_operate : hf_cv M_X7_operate 7 1 := ⟨⟨ii_X7, kc_X7_operate, by decide, by decide, by decide +kernel⟩, ki_X7_operate, kv_X7_operate, _, rfl, rfl⟩
set_option maxRecDepth 20000 in
theorem c_X7_operate (x0 x1 : Int) : hf_Met M_X7_operate [2, 0] [x0, x1] (f_X7_operate x0 x1) := by
  refine hf_met rfl (by decide) (by decide) (by decide) ?_
  show hf_J M_X7_operate 0 [(0, 2, x0), (1, 0, x1)] [] _
  refine hf_ald_n (pc := 0) 0 rfl rfl dX7_operate_0 ?_
  refine hf_cV (pc := 1) (N := M_X7_pop) (ts := []) (vs := []) (st := []) (fun r => [(1, r)]) (c_X7_pop x0) cal_X7_pop ml_X7_45 ⟨hf_le rfl, hf_le rfl⟩ (hf_le rfl) ⟨rfl, rfl⟩ rfl dX7_operate_1 (fun _ => rfl) (fun v1 => ?_)
  refine hf_lst_n (pc := 4) (lv' := [(2, 1, v1), (0, 2, x0), (1, 0, x1)]) rfl (by decide) rfl dX7_operate_4 ?_
  refine hf_ild_n (pc := 5) 2 rfl rfl dX7_operate_5 ?_
  refine hf_bipush (pc := 6) dX7_operate_6 (by decide) ?_
  refine hf_icmp_ne (pc := 8) 27 dX7_operate_8 rfl ?_ ?_
  · refine hf_ald_n (pc := 27) 1 rfl rfl dX7_operate_27 ?_
    refine hf_cV (pc := 28) (N := M_X7_pop) (ts := []) (vs := []) (st := []) (fun r => [(1, r)]) (c_X7_pop x0) cal_X7_pop ml_X7_45 ⟨hf_le rfl, hf_le rfl⟩ (hf_le rfl) ⟨rfl, rfl⟩ rfl dX7_operate_28 (fun _ => rfl) (fun v28 => ?_)
    refine hf_lst (pc := 31) (lv' := [(4, 1, v28), (2, 1, v1), (0, 2, x0), (1, 0, x1)]) (by decide) rfl dX7_operate_31 ?_
    refine hf_ild_n (pc := 33) 3 rfl rfl dX7_operate_33 ?_
    refine hf_Jck (fun hr => ?_)
    refine hf_Jit (fun hc0 => ?_) (fun hc0 => ?_)
    · refine hf_tsw (pc := 34) 64 30 hr dX7_operate_34 (by omega) (by omega) (by rw [hc0]; rfl) rfl ?_
      refine hf_ald_n (pc := 64) 2 rfl rfl dX7_operate_64 ?_
      refine hf_lld (pc := 65) 0 rfl dX7_operate_65 ?_
      refine hf_lld_n (pc := 67) 1 rfl rfl dX7_operate_67 ?_
      refine hf_ladd (pc := 68) dX7_operate_68 ?_
      refine hf_cV (pc := 69) (N := M_X7_push) (ts := [1]) (vs := [(v28 + v1)]) (st := []) (fun r => []) (c_X7_push x0 (v28 + v1)) cal_X7_push ml_X7_27 ⟨hf_le rfl, hf_le rfl⟩ (hf_le rfl) ⟨rfl, rfl⟩ rfl dX7_operate_69 (fun _ => rfl) (fun _ => ?_)
      refine hf_goto (pc := 72) 125 dX7_operate_72 rfl ?_
      exact hf_Jret (pc := 125) dX7_operate_125 (fun _ => rfl)
    · refine hf_Jit (fun hc1 => ?_) (fun hc1 => ?_)
      · refine hf_tsw (pc := 34) 75 41 hr dX7_operate_34 (by omega) (by omega) (by rw [hc1]; rfl) rfl ?_
        refine hf_ald_n (pc := 75) 2 rfl rfl dX7_operate_75 ?_
        refine hf_lld (pc := 76) 0 rfl dX7_operate_76 ?_
        refine hf_lld_n (pc := 78) 1 rfl rfl dX7_operate_78 ?_
        refine hf_lsub (pc := 79) dX7_operate_79 ?_
        refine hf_cV (pc := 80) (N := M_X7_push) (ts := [1]) (vs := [(v28 - v1)]) (st := []) (fun r => []) (c_X7_push x0 (v28 - v1)) cal_X7_push ml_X7_27 ⟨hf_le rfl, hf_le rfl⟩ (hf_le rfl) ⟨rfl, rfl⟩ rfl dX7_operate_80 (fun _ => rfl) (fun _ => ?_)
        refine hf_goto (pc := 83) 125 dX7_operate_83 rfl ?_
        exact hf_Jret (pc := 125) dX7_operate_125 (fun _ => rfl)
      · refine hf_Jit (fun hc2 => ?_) (fun hc2 => ?_)
        · refine hf_tsw (pc := 34) 86 52 hr dX7_operate_34 (by omega) (by omega) (by rw [hc2]; rfl) rfl ?_
          refine hf_ald_n (pc := 86) 2 rfl rfl dX7_operate_86 ?_
          refine hf_lld (pc := 87) 0 rfl dX7_operate_87 ?_
          refine hf_lld_n (pc := 89) 1 rfl rfl dX7_operate_89 ?_
          refine hf_cV (pc := 90) (N := M_X7_multiply) (ts := [1, 1]) (vs := [v28, v1]) (st := []) (fun r => []) (c_X7_multiply x0 v28 v1) cal_X7_multiply ml_X7_74 ⟨hf_le rfl, hf_le rfl⟩ (hf_le rfl) ⟨rfl, rfl⟩ rfl dX7_operate_90 (fun _ => rfl) (fun _ => ?_)
          refine hf_goto (pc := 93) 125 dX7_operate_93 rfl ?_
          exact hf_Jret (pc := 125) dX7_operate_125 (fun _ => rfl)
        · refine hf_Jit (fun hc3 => ?_) (fun hc3 => ?_)
          · refine hf_tsw (pc := 34) 96 62 hr dX7_operate_34 (by omega) (by omega) (by rw [hc3]; rfl) rfl ?_
            refine hf_ald_n (pc := 96) 2 rfl rfl dX7_operate_96 ?_
            refine hf_lld (pc := 97) 0 rfl dX7_operate_97 ?_
            refine hf_lld_n (pc := 99) 1 rfl rfl dX7_operate_99 ?_
            refine hf_cV (pc := 100) (N := M_X7_divide) (ts := [1, 1]) (vs := [v28, v1]) (st := []) (fun r => []) (c_X7_divide x0 v28 v1) cal_X7_divide ml_X7_78 ⟨hf_le rfl, hf_le rfl⟩ (hf_le rfl) ⟨rfl, rfl⟩ rfl dX7_operate_100 (fun _ => rfl) (fun _ => ?_)
            refine hf_goto (pc := 103) 125 dX7_operate_103 rfl ?_
            exact hf_Jret (pc := 125) dX7_operate_125 (fun _ => rfl)
          · refine hf_tswd (pc := 34) 106 hr dX7_operate_34 (by omega) rfl ?_
            refine hf_ald_n (pc := 106) 2 rfl rfl dX7_operate_106 ?_
            refine hf_ild_n (pc := 107) 3 rfl rfl dX7_operate_107 ?_
            refine hf_lld (pc := 108) 0 rfl dX7_operate_108 ?_
            refine hf_lld_n (pc := 110) 1 rfl rfl dX7_operate_110 ?_
            refine hf_cS (pc := 111) (N := M_X7_holds) (ts := [0, 1, 1]) (vs := [x1, v28, v1]) (st := [(2, x0)]) (fun r => [(0, r), (2, x0)]) (c_X7_holds x1 v28 v1) cal_X7_holds ml_X7_81 ⟨hf_le rfl, hf_le rfl⟩ (hf_le rfl) ⟨rfl, rfl⟩ rfl dX7_operate_111 (fun _ => rfl) (fun v111 => ?_)
            refine hf_Jdiz (pc := 114) (pcM := 122) (t := 1) (stM := [(2, x0)]) (fun w122 => ?_) (fun a1 a2 => ?_)
            · refine hf_cV (pc := 122) (N := M_X7_push) (ts := [1]) (vs := [w122]) (st := []) (fun r => []) (c_X7_push x0 w122) cal_X7_push ml_X7_27 ⟨hf_le rfl, hf_le rfl⟩ (hf_le rfl) ⟨rfl, rfl⟩ rfl dX7_operate_122 (fun _ => rfl) (fun _ => ?_)
              exact hf_Jret (pc := 125) dX7_operate_125 (fun _ => rfl)
            · refine hf_if_eq (pc := 114) 121 dX7_operate_114 rfl ?_ ?_
              · refine hf_lconst (pc := 121) (v := 0) dX7_operate_121 (by decide) ?_
                exact a1
              · refine hf_lconst (pc := 117) (v := 1) dX7_operate_117 (by decide) ?_
                refine hf_goto (pc := 118) 122 dX7_operate_118 rfl ?_
                exact a2
  · refine hf_ald_n (pc := 11) 1 rfl rfl dX7_operate_11 ?_
    refine hf_lld_n (pc := 12) 0 rfl rfl dX7_operate_12 ?_
    refine hf_lconst (pc := 13) (v := 0) dX7_operate_13 (by decide) ?_
    refine hf_Jdil (pc := 14) (pcM := 23) (t := 1) (stM := [(2, x0)]) (fun w23 => ?_) (fun a1 a2 => ?_)
    · refine hf_cV (pc := 23) (N := M_X7_push) (ts := [1]) (vs := [w23]) (st := []) (fun r => []) (c_X7_push x0 w23) cal_X7_push ml_X7_27 ⟨hf_le rfl, hf_le rfl⟩ (hf_le rfl) ⟨rfl, rfl⟩ rfl dX7_operate_23 (fun _ => rfl) (fun _ => ?_)
      exact hf_Jret (pc := 26) dX7_operate_26 (fun _ => rfl)
    · refine hf_lcm_ne (pc := 14) 22 dX7_operate_14 dX7_operate_15 rfl ?_ ?_
      · refine hf_lconst (pc := 22) (v := 0) dX7_operate_22 (by decide) ?_
        exact a1
      · refine hf_lconst (pc := 18) (v := 1) dX7_operate_18 (by decide) ?_
        refine hf_goto (pc := 19) 23 dX7_operate_19 rfl ?_
        exact a2
/-! Reckoner.work(LHighFall$Plan;IILHighFall$Course;)J -/
def M_X7_work : hf_D := (yX7_work, cX7_work, 7, some .long, 3, 73)
def f_X7_work_93 (rec_13 : Int → hf_M Int) (x0 x1 x3 x4 x5 : Int) : hf_M Int :=
  hf_bd (hf_ret (x5 + 1)) (fun x5_93 => rec_13 x5_93)
def f_X7_work_99 (x0 : Int) : hf_M Int :=
  hf_bd (hf_gf 7 2 x0) (fun v100 => hf_cz v100 (v100 = 0) (hf_bd (hf_ob 7 x0 (f_X7_pop x0)) (fun v111 => hf_ret v111)) (hf_ret 0))
def B_X7_work_13 (x0 x1 x3 x4 : Int) (rec_13 : Int → hf_M Int) (x5 : Int) : hf_M Int :=
  hf_cb x5 x3 (x3 ≤ x5) (f_X7_work_99 x0) (hf_bd (hf_gf 7 2 x0) (fun v20 => hf_cz v20 (¬ v20 = 0) (f_X7_work_99 x0) (hf_bd (hf_gf 4 5 x1) (fun v27 => hf_bd (hf_al 20 v27 x5) (fun v32 => hf_cb v32 1000 (1000 ≤ v32) (hf_bd (f_X9_isName (v32 - 1000)) (fun v59 => hf_cz v59 (v59 = 0) (hf_bd (hf_ob 7 x0 (f_X7_operate x0 (v32 - 1000))) (fun _ => f_X7_work_93 rec_13 x0 x1 x3 x4 x5)) (hf_bd (f_X7_valueOfName (v32 - 1000) x4) (fun v74 => hf_bd (hf_ob 7 x0 (f_X7_push x0 v74)) (fun _ => f_X7_work_93 rec_13 x0 x1 x3 x4 x5))))) (hf_ck (hf_inI v32) (hf_bd (hf_ob 7 x0 (f_X7_push x0 v32)) (fun _ => f_X7_work_93 rec_13 x0 x1 x3 x4 x5))))))))
def f_X7_work_13 (x0 x1 x3 x4 x5 : Int) : hf_M Int := hf_fx (fun rec s => B_X7_work_13 x0 x1 x3 x4 rec s) hf_N x5
def f_X7_work (x0 x1 x2 x3 x4 : Int) : hf_M Int :=
  hf_bd (hf_pf 7 1 x0 0) (fun _ => hf_bd (hf_pf 7 2 x0 0) (fun _ => f_X7_work_13 x0 x1 x3 x4 x2))
theorem cal_X7_work : hf_cv M_X7_work 7 4 := ⟨⟨ii_X7, kc_X7_work, by decide, by decide, by decide +kernel⟩, ki_X7_work, kv_X7_work, _, rfl, rfl⟩
set_option maxRecDepth 20000 in
theorem j_X7_work_93 (x0 x1 x3 x4 x5 : Int) (rec_13 : Int → hf_M Int) (hrec_13 : ∀ s : Int, hf_J M_X7_work 13 [(0, 2, x0), (1, 2, x1), (3, 0, x3), (4, 2, x4), (5, 0, s)] [] (rec_13 s)) : hf_J M_X7_work 93 [(0, 2, x0), (1, 2, x1), (3, 0, x3), (4, 2, x4), (5, 0, x5)] [] (f_X7_work_93 rec_13 x0 x1 x3 x4 x5) := by
  refine hf_iincB (pc := 93) (fun y => [(5, 0, y), (0, 2, x0), (1, 2, x1), (3, 0, x3), (4, 2, x4)]) (q := 4) rfl (by decide) (fun _ => rfl) dX7_work_93 (fun x5_93 => ?_)
  refine hf_goto (pc := 96) 13 dX7_work_96 rfl ?_
  exact hf_sub [1, 2, 3, 4, 0] rfl (hrec_13 x5_93)
set_option maxRecDepth 20000 in
theorem j_X7_work_99 (x0 : Int) : hf_J M_X7_work 99 [(0, 2, x0)] [] (f_X7_work_99 x0) := by
  refine hf_ald_n (pc := 99) 0 rfl rfl dX7_work_99 ?_
  refine hf_getf (pc := 100) fl_X7_19 dX7_work_100 (fun v100 => ?_)
  refine hf_if_eq (pc := 103) 110 dX7_work_103 rfl ?_ ?_
  · refine hf_ald_n (pc := 110) 0 rfl rfl dX7_work_110 ?_
    refine hf_cV (pc := 111) (N := M_X7_pop) (ts := []) (vs := []) (st := []) (fun r => [(1, r)]) (c_X7_pop x0) cal_X7_pop ml_X7_45 ⟨hf_le rfl, hf_le rfl⟩ (hf_le rfl) ⟨rfl, rfl⟩ rfl dX7_work_111 (fun _ => rfl) (fun v111 => ?_)
    exact hf_Jret (pc := 114) dX7_work_114 (fun _ => rfl)
  · refine hf_lconst (pc := 106) (v := 0) dX7_work_106 (by decide) ?_
    refine hf_goto (pc := 107) 114 dX7_work_107 rfl ?_
    exact hf_Jret (pc := 114) dX7_work_114 (fun _ => rfl)
set_option maxRecDepth 20000 in
theorem jb_X7_work_13 (x0 x1 x3 x4 : Int) (rec_13 : Int → hf_M Int) (hrec_13 : ∀ s : Int, hf_J M_X7_work 13 [(0, 2, x0), (1, 2, x1), (3, 0, x3), (4, 2, x4), (5, 0, s)] [] (rec_13 s)) (x5 : Int) : hf_J M_X7_work 13 [(0, 2, x0), (1, 2, x1), (3, 0, x3), (4, 2, x4), (5, 0, x5)] [] (B_X7_work_13 x0 x1 x3 x4 rec_13 x5) := by
  refine hf_ild (pc := 13) 4 rfl dX7_work_13 ?_
  refine hf_ild_n (pc := 15) 2 rfl rfl dX7_work_15 ?_
  refine hf_icmp_ge (pc := 16) 99 dX7_work_16 rfl ?_ ?_
  · exact hf_sub [0] rfl (j_X7_work_99 x0)
  · refine hf_ald_n (pc := 19) 0 rfl rfl dX7_work_19 ?_
    refine hf_getf (pc := 20) fl_X7_19 dX7_work_20 (fun v20 => ?_)
    refine hf_if_ne (pc := 23) 99 dX7_work_23 rfl ?_ ?_
    · exact hf_sub [0] rfl (j_X7_work_99 x0)
    · refine hf_ald_n (pc := 26) 1 rfl rfl dX7_work_26 ?_
      refine hf_getf (pc := 27) fl_X7_23 dX7_work_27 (fun v27 => ?_)
      refine hf_ild (pc := 30) 4 rfl dX7_work_30 ?_
      refine hf_iald (pc := 32) dX7_work_32 (fun v32 => ?_)
      refine hf_ist (pc := 33) (lv' := [(6, 0, v32), (0, 2, x0), (1, 2, x1), (3, 0, x3), (4, 2, x4), (5, 0, x5)]) (by decide) rfl dX7_work_33 ?_
      refine hf_ild (pc := 35) 0 rfl dX7_work_35 ?_
      refine hf_sipush (pc := 37) dX7_work_37 (by decide) ?_
      refine hf_icmp_ge (pc := 40) 53 dX7_work_40 rfl ?_ ?_
      · refine hf_ild (pc := 53) 0 rfl dX7_work_53 ?_
        refine hf_sipush (pc := 55) dX7_work_55 (by decide) ?_
        refine hf_isub (pc := 58) dX7_work_58 ?_
        refine hf_cS (pc := 59) (N := M_X9_isName) (ts := [0]) (vs := [(v32 - 1000)]) (st := []) (fun r => [(0, r)]) (c_X9_isName (v32 - 1000)) cal_X9_isName ml_X7_31 ⟨hf_le rfl, hf_le rfl⟩ (hf_le rfl) ⟨rfl, rfl⟩ rfl dX7_work_59 (fun _ => rfl) (fun v59 => ?_)
        refine hf_if_eq (pc := 62) 83 dX7_work_62 rfl ?_ ?_
        · refine hf_ald_n (pc := 83) 1 rfl rfl dX7_work_83 ?_
          refine hf_ild (pc := 84) 0 rfl dX7_work_84 ?_
          refine hf_sipush (pc := 86) dX7_work_86 (by decide) ?_
          refine hf_isub (pc := 89) dX7_work_89 ?_
          refine hf_cV (pc := 90) (N := M_X7_operate) (ts := [0]) (vs := [(v32 - 1000)]) (st := []) (fun r => []) (c_X7_operate x0 (v32 - 1000)) cal_X7_operate ml_X7_41 ⟨hf_le rfl, hf_le rfl⟩ (hf_le rfl) ⟨rfl, rfl⟩ rfl dX7_work_90 (fun _ => rfl) (fun _ => ?_)
          exact hf_sub [1, 2, 3, 4, 5] rfl (j_X7_work_93 x0 x1 x3 x4 x5 rec_13 hrec_13)
        · refine hf_ald_n (pc := 65) 1 rfl rfl dX7_work_65 ?_
          refine hf_ild (pc := 66) 0 rfl dX7_work_66 ?_
          refine hf_sipush (pc := 68) dX7_work_68 (by decide) ?_
          refine hf_isub (pc := 71) dX7_work_71 ?_
          refine hf_ald (pc := 72) 4 rfl dX7_work_72 ?_
          refine hf_cS (pc := 74) (N := M_X7_valueOfName) (ts := [0, 2]) (vs := [(v32 - 1000), x4]) (st := [(2, x0)]) (fun r => [(1, r), (2, x0)]) (c_X7_valueOfName (v32 - 1000) x4) cal_X7_valueOfName ml_X7_37 ⟨hf_le rfl, hf_le rfl⟩ (hf_le rfl) ⟨rfl, rfl⟩ rfl dX7_work_74 (fun _ => rfl) (fun v74 => ?_)
          refine hf_cV (pc := 77) (N := M_X7_push) (ts := [1]) (vs := [v74]) (st := []) (fun r => []) (c_X7_push x0 v74) cal_X7_push ml_X7_27 ⟨hf_le rfl, hf_le rfl⟩ (hf_le rfl) ⟨rfl, rfl⟩ rfl dX7_work_77 (fun _ => rfl) (fun _ => ?_)
          refine hf_goto (pc := 80) 93 dX7_work_80 rfl ?_
          exact hf_sub [1, 2, 3, 4, 5] rfl (j_X7_work_93 x0 x1 x3 x4 x5 rec_13 hrec_13)
      · refine hf_ald_n (pc := 43) 1 rfl rfl dX7_work_43 ?_
        refine hf_ild (pc := 44) 0 rfl dX7_work_44 ?_
        refine hf_i2l (pc := 46) dX7_work_46 ?_
        refine hf_cV (pc := 47) (N := M_X7_push) (ts := [1]) (vs := [v32]) (st := []) (fun r => []) (c_X7_push x0 v32) cal_X7_push ml_X7_27 ⟨hf_le rfl, hf_le rfl⟩ (hf_le rfl) ⟨rfl, rfl⟩ rfl dX7_work_47 (fun _ => rfl) (fun _ => ?_)
        refine hf_goto (pc := 50) 93 dX7_work_50 rfl ?_
        exact hf_sub [1, 2, 3, 4, 5] rfl (j_X7_work_93 x0 x1 x3 x4 x5 rec_13 hrec_13)
set_option maxRecDepth 20000 in
theorem j_X7_work_13 (x0 x1 x3 x4 x5 : Int) : hf_J M_X7_work 13 [(0, 2, x0), (1, 2, x1), (3, 0, x3), (4, 2, x4), (5, 0, x5)] [] (f_X7_work_13 x0 x1 x3 x4 x5) :=
  hf_Jfx (L := fun s => [(0, 2, x0), (1, 2, x1), (3, 0, x3), (4, 2, x4), (5, 0, s)]) (fun rec hrec s => jb_X7_work_13 x0 x1 x3 x4 rec hrec s) hf_N x5
set_option maxRecDepth 20000 in
theorem c_X7_work (x0 x1 x2 x3 x4 : Int) : hf_Met M_X7_work [2, 2, 0, 0, 2] [x0, x1, x2, x3, x4] (f_X7_work x0 x1 x2 x3 x4) := by
  refine hf_met rfl (by decide) (by decide) (by decide) ?_
  show hf_J M_X7_work 0 [(0, 2, x0), (1, 2, x1), (2, 0, x2), (3, 0, x3), (4, 2, x4)] [] _
  refine hf_ald_n (pc := 0) 0 rfl rfl dX7_work_0 ?_
  refine hf_iconst (pc := 1) dX7_work_1 ?_
  refine hf_putf (pc := 2) fl_X7_15 trivial dX7_work_2 ?_
  refine hf_ald_n (pc := 5) 0 rfl rfl dX7_work_5 ?_
  refine hf_iconst (pc := 6) dX7_work_6 ?_
  refine hf_putf (pc := 7) fl_X7_19 (Or.inl rfl) dX7_work_7 ?_
  refine hf_ild_n (pc := 10) 2 rfl rfl dX7_work_10 ?_
  refine hf_ist (pc := 11) (lv' := [(5, 0, x2), (0, 2, x0), (1, 2, x1), (2, 0, x2), (3, 0, x3), (4, 2, x4)]) (by decide) rfl dX7_work_11 ?_
  exact hf_sub [1, 2, 4, 5, 0] rfl (j_X7_work_13 x0 x1 x3 x4 x2)
/-! PlanTrial.lineThatHolds(LHighFall$Plan;)I -/
def M_X6_lineThatHolds : hf_D := (yX6_lineThatHolds, cX6_lineThatHolds, 3, some .int, 4, 99)
def B_X6_lineThatHolds_2 (x0 x1 : Int) (rec_2 : Int → hf_M Int) (x2 : Int) : hf_M Int :=
  hf_bd (hf_gf 4 0 x1) (fun v4 => hf_cb x2 v4 (v4 ≤ x2) (hf_ret (-1)) (hf_bd (hf_ob 4 x1 (f_X4_hasCondition x1 x2)) (fun v12 => hf_cz v12 (¬ v12 = 0) (hf_bd (hf_gf 6 1 x0) (fun v21 => hf_bd (hf_ob 4 x1 (f_X4_conditionFrom x1 x2)) (fun v27 => hf_bd (hf_gf 4 3 x1) (fun v31 => hf_bd (hf_al 20 v31 x2) (fun v35 => hf_bd (hf_gf 6 0 x0) (fun v37 => hf_bd (hf_ob 7 v21 (f_X7_work v21 x1 v27 v35 v37)) (fun v40 => hf_cl v40 0 (v40 = 0) (hf_bd (hf_ret (x2 + 1)) (fun x2_50 => rec_2 x2_50)) (hf_ret x2)))))))) (hf_ret x2))))
def f_X6_lineThatHolds_2 (x0 x1 x2 : Int) : hf_M Int := hf_fx (fun rec s => B_X6_lineThatHolds_2 x0 x1 rec s) hf_N x2
def f_X6_lineThatHolds (x0 x1 : Int) : hf_M Int :=
  f_X6_lineThatHolds_2 x0 x1 0
theorem cal_X6_lineThatHolds : hf_cv M_X6_lineThatHolds 6 1 := ⟨⟨ii_X6, kc_X6_lineThatHolds, by decide, by decide, by decide +kernel⟩, ki_X6_lineThatHolds, kv_X6_lineThatHolds, _, rfl, rfl⟩
set_option maxRecDepth 20000 in
theorem jb_X6_lineThatHolds_2 (x0 x1 : Int) (rec_2 : Int → hf_M Int) (hrec_2 : ∀ s : Int, hf_J M_X6_lineThatHolds 2 [(0, 2, x0), (1, 2, x1), (2, 0, s)] [] (rec_2 s)) (x2 : Int) : hf_J M_X6_lineThatHolds 2 [(0, 2, x0), (1, 2, x1), (2, 0, x2)] [] (B_X6_lineThatHolds_2 x0 x1 rec_2 x2) := by
  refine hf_ild_n (pc := 2) 2 rfl rfl dX6_lineThatHolds_2 ?_
  refine hf_ald_n (pc := 3) 1 rfl rfl dX6_lineThatHolds_3 ?_
  refine hf_getf (pc := 4) fl_X6_82 dX6_lineThatHolds_4 (fun v4 => ?_)
  refine hf_icmp_ge (pc := 7) 56 dX6_lineThatHolds_7 rfl ?_ ?_
  · refine hf_iconst (pc := 56) dX6_lineThatHolds_56 ?_
    exact hf_Jret (pc := 57) dX6_lineThatHolds_57 (fun _ => rfl)
  · refine hf_ald_n (pc := 10) 1 rfl rfl dX6_lineThatHolds_10 ?_
    refine hf_ild_n (pc := 11) 2 rfl rfl dX6_lineThatHolds_11 ?_
    refine hf_cV (pc := 12) (N := M_X4_hasCondition) (ts := [0]) (vs := [x2]) (st := []) (fun r => [(0, r)]) (c_X4_hasCondition x1 x2) cal_X4_hasCondition ml_X6_85 ⟨hf_le rfl, hf_le rfl⟩ (hf_le rfl) ⟨rfl, rfl⟩ rfl dX6_lineThatHolds_12 (fun _ => rfl) (fun v12 => ?_)
    refine hf_if_ne (pc := 15) 20 dX6_lineThatHolds_15 rfl ?_ ?_
    · refine hf_ald_n (pc := 20) 0 rfl rfl dX6_lineThatHolds_20 ?_
      refine hf_getf (pc := 21) fl_X6_23 dX6_lineThatHolds_21 (fun v21 => ?_)
      refine hf_ald_n (pc := 24) 1 rfl rfl dX6_lineThatHolds_24 ?_
      refine hf_ald_n (pc := 25) 1 rfl rfl dX6_lineThatHolds_25 ?_
      refine hf_ild_n (pc := 26) 2 rfl rfl dX6_lineThatHolds_26 ?_
      refine hf_cV (pc := 27) (N := M_X4_conditionFrom) (ts := [0]) (vs := [x2]) (st := [(2, x1), (2, v21)]) (fun r => [(0, r), (2, x1), (2, v21)]) (c_X4_conditionFrom x1 x2) cal_X4_conditionFrom ml_X6_89 ⟨hf_le rfl, hf_le rfl⟩ (hf_le rfl) ⟨rfl, rfl⟩ rfl dX6_lineThatHolds_27 (fun _ => rfl) (fun v27 => ?_)
      refine hf_ald_n (pc := 30) 1 rfl rfl dX6_lineThatHolds_30 ?_
      refine hf_getf (pc := 31) fl_X6_55 dX6_lineThatHolds_31 (fun v31 => ?_)
      refine hf_ild_n (pc := 34) 2 rfl rfl dX6_lineThatHolds_34 ?_
      refine hf_iald (pc := 35) dX6_lineThatHolds_35 (fun v35 => ?_)
      refine hf_ald_n (pc := 36) 0 rfl rfl dX6_lineThatHolds_36 ?_
      refine hf_getf (pc := 37) fl_X6_14 dX6_lineThatHolds_37 (fun v37 => ?_)
      refine hf_cV (pc := 40) (N := M_X7_work) (ts := [2, 0, 0, 2]) (vs := [x1, v27, v35, v37]) (st := []) (fun r => [(1, r)]) (c_X7_work v21 x1 v27 v35 v37) cal_X7_work ml_X6_64 ⟨hf_le rfl, hf_le rfl⟩ (hf_le rfl) ⟨rfl, rfl⟩ rfl dX6_lineThatHolds_40 (fun _ => rfl) (fun v40 => ?_)
      refine hf_lconst (pc := 43) (v := 0) dX6_lineThatHolds_43 (by decide) ?_
      refine hf_lcm_eq (pc := 44) 50 dX6_lineThatHolds_44 dX6_lineThatHolds_45 rfl ?_ ?_
      · refine hf_iincB (pc := 50) (fun y => [(2, 0, y), (0, 2, x0), (1, 2, x1)]) (q := 2) rfl (by decide) (fun _ => rfl) dX6_lineThatHolds_50 (fun x2_50 => ?_)
        refine hf_goto (pc := 53) 2 dX6_lineThatHolds_53 rfl ?_
        exact hf_sub [1, 2, 0] rfl (hrec_2 x2_50)
      · refine hf_ild_n (pc := 48) 2 rfl rfl dX6_lineThatHolds_48 ?_
        exact hf_Jret (pc := 49) dX6_lineThatHolds_49 (fun _ => rfl)
    · refine hf_ild_n (pc := 18) 2 rfl rfl dX6_lineThatHolds_18 ?_
      exact hf_Jret (pc := 19) dX6_lineThatHolds_19 (fun _ => rfl)
set_option maxRecDepth 20000 in
theorem j_X6_lineThatHolds_2 (x0 x1 x2 : Int) : hf_J M_X6_lineThatHolds 2 [(0, 2, x0), (1, 2, x1), (2, 0, x2)] [] (f_X6_lineThatHolds_2 x0 x1 x2) :=
  hf_Jfx (L := fun s => [(0, 2, x0), (1, 2, x1), (2, 0, s)]) (fun rec hrec s => jb_X6_lineThatHolds_2 x0 x1 rec hrec s) hf_N x2
set_option maxRecDepth 20000 in
theorem c_X6_lineThatHolds (x0 x1 : Int) : hf_Met M_X6_lineThatHolds [2, 2] [x0, x1] (f_X6_lineThatHolds x0 x1) := by
  refine hf_met rfl (by decide) (by decide) (by decide) ?_
  show hf_J M_X6_lineThatHolds 0 [(0, 2, x0), (1, 2, x1)] [] _
  refine hf_iconst (pc := 0) dX6_lineThatHolds_0 ?_
  refine hf_ist_n (pc := 1) (lv' := [(2, 0, 0), (0, 2, x0), (1, 2, x1)]) rfl (by decide) rfl dX6_lineThatHolds_1 ?_
  exact hf_sub [1, 2, 0] rfl (j_X6_lineThatHolds_2 x0 x1 0)
/-! PlanTrial.letFall(LHighFall$Stair;IJ)V -/
def M_X6_letFall : hf_D := (yX6_letFall, cX6_letFall, 5, none, 2, 49)
def f_X6_letFall_30 (x0 : Int) : hf_M Int :=
  hf_bd (hf_pf 6 2 x0 3) (fun _ => hf_ret 0)
def f_X6_letFall (x0 x1 x2 x3 : Int) : hf_M Int :=
  hf_cl x3 1 (x3 < 1) (f_X6_letFall_30 x0) (hf_bd (hf_gf 8 0 x1) (fun v8 => hf_ck (hf_inI v8) (hf_cl x3 v8 (v8 < x3) (f_X6_letFall_30 x0) (hf_bd (hf_gf 6 0 x0) (fun v17 => hf_bd (hf_ob 1 v17 (f_X1_canFall v17 x1 x2 x3)) (fun v24 => hf_cz v24 (¬ v24 = 0) (hf_bd (hf_gf 6 0 x0) (fun v39 => hf_bd (hf_ob 1 v39 (f_X1_letFall v39 x1 x2 x3)) (fun v46 => hf_ret 0))) (f_X6_letFall_30 x0)))))))
theorem cal_X6_letFall : hf_cv M_X6_letFall 6 3 := ⟨⟨ii_X6, kc_X6_letFall, by decide, by decide, by decide +kernel⟩, ki_X6_letFall, kv_X6_letFall, _, rfl, rfl⟩
set_option maxRecDepth 20000 in
theorem j_X6_letFall_30 (x0 : Int) : hf_J M_X6_letFall 30 [(0, 2, x0)] [] (f_X6_letFall_30 x0) := by
  refine hf_ald_n (pc := 30) 0 rfl rfl dX6_letFall_30 ?_
  refine hf_iconst (pc := 31) dX6_letFall_31 ?_
  refine hf_putf (pc := 32) fl_X6_27 trivial dX6_letFall_32 ?_
  refine hf_goto (pc := 35) 50 dX6_letFall_35 rfl ?_
  exact hf_Jret (pc := 50) dX6_letFall_50 (fun _ => rfl)
set_option maxRecDepth 20000 in
theorem c_X6_letFall (x0 x1 x2 x3 : Int) : hf_Met M_X6_letFall [2, 2, 0, 1] [x0, x1, x2, x3] (f_X6_letFall x0 x1 x2 x3) := by
  refine hf_met rfl (by decide) (by decide) (by decide) ?_
  show hf_J M_X6_letFall 0 [(0, 2, x0), (1, 2, x1), (2, 0, x2), (3, 1, x3)] [] _
  refine hf_lld_n (pc := 0) 3 rfl rfl dX6_letFall_0 ?_
  refine hf_lconst (pc := 1) (v := 1) dX6_letFall_1 (by decide) ?_
  refine hf_lcm_lt (pc := 2) 30 dX6_letFall_2 dX6_letFall_3 rfl ?_ ?_
  · exact hf_sub [0] rfl (j_X6_letFall_30 x0)
  · refine hf_lld_n (pc := 6) 3 rfl rfl dX6_letFall_6 ?_
    refine hf_ald_n (pc := 7) 1 rfl rfl dX6_letFall_7 ?_
    refine hf_getf (pc := 8) fl_X6_93 dX6_letFall_8 (fun v8 => ?_)
    refine hf_i2l (pc := 11) dX6_letFall_11 ?_
    refine hf_lcm_gt (pc := 12) 30 dX6_letFall_12 dX6_letFall_13 rfl ?_ ?_
    · exact hf_sub [0] rfl (j_X6_letFall_30 x0)
    · refine hf_ald_n (pc := 16) 0 rfl rfl dX6_letFall_16 ?_
      refine hf_getf (pc := 17) fl_X6_14 dX6_letFall_17 (fun v17 => ?_)
      refine hf_ald_n (pc := 20) 1 rfl rfl dX6_letFall_20 ?_
      refine hf_ild_n (pc := 21) 2 rfl rfl dX6_letFall_21 ?_
      refine hf_lld_n (pc := 22) 3 rfl rfl dX6_letFall_22 ?_
      refine hf_l2i (pc := 23) dX6_letFall_23 ?_
      refine hf_cV (pc := 24) (N := M_X1_canFall) (ts := [2, 0, 0]) (vs := [x1, x2, x3]) (st := []) (fun r => [(0, r)]) (c_X1_canFall v17 x1 x2 x3) cal_X1_canFall ml_X6_98 ⟨hf_le rfl, hf_le rfl⟩ (hf_le rfl) ⟨rfl, rfl⟩ rfl dX6_letFall_24 (fun _ => rfl) (fun v24 => ?_)
      refine hf_if_ne (pc := 27) 38 dX6_letFall_27 rfl ?_ ?_
      · refine hf_ald_n (pc := 38) 0 rfl rfl dX6_letFall_38 ?_
        refine hf_getf (pc := 39) fl_X6_14 dX6_letFall_39 (fun v39 => ?_)
        refine hf_ald_n (pc := 42) 1 rfl rfl dX6_letFall_42 ?_
        refine hf_ild_n (pc := 43) 2 rfl rfl dX6_letFall_43 ?_
        refine hf_lld_n (pc := 44) 3 rfl rfl dX6_letFall_44 ?_
        refine hf_l2i (pc := 45) dX6_letFall_45 ?_
        refine hf_cV (pc := 46) (N := M_X1_letFall) (ts := [2, 0, 0]) (vs := [x1, x2, x3]) (st := []) (fun r => [(0, r)]) (c_X1_letFall v39 x1 x2 x3) cal_X1_letFall ml_X6_102 ⟨hf_le rfl, hf_le rfl⟩ (hf_le rfl) ⟨rfl, rfl⟩ rfl dX6_letFall_46 (fun _ => rfl) (fun v46 => ?_)
        refine hf_pop (pc := 49) (by decide) dX6_letFall_49 ?_
        exact hf_Jret (pc := 50) dX6_letFall_50 (fun _ => rfl)
      · exact hf_sub [0] rfl (j_X6_letFall_30 x0)
/-! PlanTrial.takeTurn(LHighFall$Stair;LHighFall$Plan;)V -/
def M_X6_takeTurn : hf_D := (yX6_takeTurn, cX6_takeTurn, 6, none, 5, 121)
def f_X6_takeTurn (x0 x1 x2 : Int) : hf_M Int :=
  hf_bd (hf_ob 6 x0 (f_X6_lineThatHolds x0 x2)) (fun v2 => hf_cb v2 (-1) (¬ v2 = (-1)) (hf_bd (hf_gf 6 1 x0) (fun v18 => hf_bd (hf_gf 4 3 x2) (fun v23 => hf_bd (hf_al 20 v23 v2) (fun v27 => hf_bd (hf_gf 4 4 x2) (fun v29 => hf_bd (hf_al 20 v29 v2) (fun v33 => hf_bd (hf_gf 6 0 x0) (fun v35 => hf_bd (hf_ob 7 v18 (f_X7_work v18 x2 v27 v33 v35)) (fun v38 => hf_bd (hf_gf 6 1 x0) (fun v44 => hf_bd (hf_gf 7 2 v44) (fun v47 => hf_cz v47 (v47 = 0) (hf_bd (hf_gf 4 2 x2) (fun v62 => hf_bd (hf_al 20 v62 v2) (fun v66 => hf_cb v66 3 (¬ v66 = 3) (hf_bd (hf_gf 4 2 x2) (fun v106 => hf_bd (hf_al 20 v106 v2) (fun v110 => hf_bd (hf_ob 6 x0 (f_X6_letFall x0 x1 v110 v38)) (fun _ => hf_ret 0)))) (hf_bd (hf_pf 6 3 x0 v38) (fun _ => hf_bd (hf_gf 6 0 x0) (fun v81 => hf_bd (hf_gf 1 8 v81) (fun v84 => hf_ck (hf_inI v84) (hf_ck (hf_inL v38 ∧ hf_inL v84) (hf_bd (hf_ret (if ¬ v38 = v84 then 2 else 1)) (fun w97 => hf_bd (hf_pf 6 2 x0 w97) (fun _ => hf_ret 0))))))))))) (hf_bd (hf_pf 6 2 x0 3) (fun _ => hf_ret 0)))))))))))) (hf_bd (hf_pf 6 2 x0 3) (fun _ => hf_ret 0)))
theorem cal_X6_takeTurn : hf_cv M_X6_takeTurn 6 2 := ⟨⟨ii_X6, kc_X6_takeTurn, by decide, by decide, by decide +kernel⟩, ki_X6_takeTurn, kv_X6_takeTurn, _, rfl, rfl⟩
set_option maxRecDepth 20000 in
theorem c_X6_takeTurn (x0 x1 x2 : Int) : hf_Met M_X6_takeTurn [2, 2, 2] [x0, x1, x2] (f_X6_takeTurn x0 x1 x2) := by
  refine hf_met rfl (by decide) (by decide) (by decide) ?_
  show hf_J M_X6_takeTurn 0 [(0, 2, x0), (1, 2, x1), (2, 2, x2)] [] _
  refine hf_ald_n (pc := 0) 0 rfl rfl dX6_takeTurn_0 ?_
  refine hf_ald_n (pc := 1) 2 rfl rfl dX6_takeTurn_1 ?_
  refine hf_cV (pc := 2) (N := M_X6_lineThatHolds) (ts := [2]) (vs := [x2]) (st := []) (fun r => [(0, r)]) (c_X6_lineThatHolds x0 x2) cal_X6_lineThatHolds ml_X6_51 ⟨hf_le rfl, hf_le rfl⟩ (hf_le rfl) ⟨rfl, rfl⟩ rfl dX6_takeTurn_2 (fun _ => rfl) (fun v2 => ?_)
  refine hf_ist_n (pc := 5) (lv' := [(3, 0, v2), (0, 2, x0), (1, 2, x1), (2, 2, x2)]) rfl (by decide) rfl dX6_takeTurn_5 ?_
  refine hf_ild_n (pc := 6) 0 rfl rfl dX6_takeTurn_6 ?_
  refine hf_iconst (pc := 7) dX6_takeTurn_7 ?_
  refine hf_icmp_ne (pc := 8) 17 dX6_takeTurn_8 rfl ?_ ?_
  · refine hf_ald_n (pc := 17) 1 rfl rfl dX6_takeTurn_17 ?_
    refine hf_getf (pc := 18) fl_X6_23 dX6_takeTurn_18 (fun v18 => ?_)
    refine hf_ald_n (pc := 21) 3 rfl rfl dX6_takeTurn_21 ?_
    refine hf_ald_n (pc := 22) 3 rfl rfl dX6_takeTurn_22 ?_
    refine hf_getf (pc := 23) fl_X6_55 dX6_takeTurn_23 (fun v23 => ?_)
    refine hf_ild_n (pc := 26) 0 rfl rfl dX6_takeTurn_26 ?_
    refine hf_iald (pc := 27) dX6_takeTurn_27 (fun v27 => ?_)
    refine hf_ald_n (pc := 28) 3 rfl rfl dX6_takeTurn_28 ?_
    refine hf_getf (pc := 29) fl_X6_61 dX6_takeTurn_29 (fun v29 => ?_)
    refine hf_ild_n (pc := 32) 0 rfl rfl dX6_takeTurn_32 ?_
    refine hf_iald (pc := 33) dX6_takeTurn_33 (fun v33 => ?_)
    refine hf_ald_n (pc := 34) 1 rfl rfl dX6_takeTurn_34 ?_
    refine hf_getf (pc := 35) fl_X6_14 dX6_takeTurn_35 (fun v35 => ?_)
    refine hf_cV (pc := 38) (N := M_X7_work) (ts := [2, 0, 0, 2]) (vs := [x2, v27, v33, v35]) (st := []) (fun r => [(1, r)]) (c_X7_work v18 x2 v27 v33 v35) cal_X7_work ml_X6_64 ⟨hf_le rfl, hf_le rfl⟩ (hf_le rfl) ⟨rfl, rfl⟩ rfl dX6_takeTurn_38 (fun _ => rfl) (fun v38 => ?_)
    refine hf_lst (pc := 41) (lv' := [(4, 1, v38), (3, 0, v2), (0, 2, x0), (1, 2, x1), (2, 2, x2)]) (by decide) rfl dX6_takeTurn_41 ?_
    refine hf_ald_n (pc := 43) 2 rfl rfl dX6_takeTurn_43 ?_
    refine hf_getf (pc := 44) fl_X6_23 dX6_takeTurn_44 (fun v44 => ?_)
    refine hf_getf (pc := 47) fl_X6_68 dX6_takeTurn_47 (fun v47 => ?_)
    refine hf_if_eq (pc := 50) 61 dX6_takeTurn_50 rfl ?_ ?_
    · refine hf_ald_n (pc := 61) 4 rfl rfl dX6_takeTurn_61 ?_
      refine hf_getf (pc := 62) fl_X6_72 dX6_takeTurn_62 (fun v62 => ?_)
      refine hf_ild_n (pc := 65) 1 rfl rfl dX6_takeTurn_65 ?_
      refine hf_iald (pc := 66) dX6_takeTurn_66 (fun v66 => ?_)
      refine hf_iconst (pc := 67) dX6_takeTurn_67 ?_
      refine hf_icmp_ne (pc := 68) 103 dX6_takeTurn_68 rfl ?_ ?_
      · refine hf_ald_n (pc := 103) 2 rfl rfl dX6_takeTurn_103 ?_
        refine hf_ald_n (pc := 104) 3 rfl rfl dX6_takeTurn_104 ?_
        refine hf_ald_n (pc := 105) 4 rfl rfl dX6_takeTurn_105 ?_
        refine hf_getf (pc := 106) fl_X6_72 dX6_takeTurn_106 (fun v106 => ?_)
        refine hf_ild_n (pc := 109) 1 rfl rfl dX6_takeTurn_109 ?_
        refine hf_iald (pc := 110) dX6_takeTurn_110 (fun v110 => ?_)
        refine hf_lld (pc := 111) 0 rfl dX6_takeTurn_111 ?_
        refine hf_cV (pc := 113) (N := M_X6_letFall) (ts := [2, 0, 1]) (vs := [x1, v110, v38]) (st := []) (fun r => []) (c_X6_letFall x0 x1 v110 v38) cal_X6_letFall ml_X6_78 ⟨hf_le rfl, hf_le rfl⟩ (hf_le rfl) ⟨rfl, rfl⟩ rfl dX6_takeTurn_113 (fun _ => rfl) (fun _ => ?_)
        exact hf_Jret (pc := 116) dX6_takeTurn_116 (fun _ => rfl)
      · refine hf_ald_n (pc := 71) 2 rfl rfl dX6_takeTurn_71 ?_
        refine hf_lld (pc := 72) 0 rfl dX6_takeTurn_72 ?_
        refine hf_putf (pc := 74) fl_X6_33 trivial dX6_takeTurn_74 ?_
        refine hf_ald_n (pc := 77) 2 rfl rfl dX6_takeTurn_77 ?_
        refine hf_lld (pc := 78) 0 rfl dX6_takeTurn_78 ?_
        refine hf_ald_n (pc := 80) 2 rfl rfl dX6_takeTurn_80 ?_
        refine hf_getf (pc := 81) fl_X6_14 dX6_takeTurn_81 (fun v81 => ?_)
        refine hf_getf (pc := 84) fl_X6_75 dX6_takeTurn_84 (fun v84 => ?_)
        refine hf_i2l (pc := 87) dX6_takeTurn_87 ?_
        refine hf_Jdil (pc := 88) (pcM := 97) (t := 0) (stM := [(2, x0)]) (fun w97 => ?_) (fun a1 a2 => ?_)
        · refine hf_putf (pc := 97) fl_X6_27 trivial dX6_takeTurn_97 ?_
          refine hf_goto (pc := 100) 116 dX6_takeTurn_100 rfl ?_
          exact hf_Jret (pc := 116) dX6_takeTurn_116 (fun _ => rfl)
        · refine hf_lcm_ne (pc := 88) 96 dX6_takeTurn_88 dX6_takeTurn_89 rfl ?_ ?_
          · refine hf_iconst (pc := 96) dX6_takeTurn_96 ?_
            exact a1
          · refine hf_iconst (pc := 92) dX6_takeTurn_92 ?_
            refine hf_goto (pc := 93) 97 dX6_takeTurn_93 rfl ?_
            exact a2
    · refine hf_ald_n (pc := 53) 2 rfl rfl dX6_takeTurn_53 ?_
      refine hf_iconst (pc := 54) dX6_takeTurn_54 ?_
      refine hf_putf (pc := 55) fl_X6_27 trivial dX6_takeTurn_55 ?_
      refine hf_goto (pc := 58) 116 dX6_takeTurn_58 rfl ?_
      exact hf_Jret (pc := 116) dX6_takeTurn_116 (fun _ => rfl)
  · refine hf_ald_n (pc := 11) 1 rfl rfl dX6_takeTurn_11 ?_
    refine hf_iconst (pc := 12) dX6_takeTurn_12 ?_
    refine hf_putf (pc := 13) fl_X6_27 trivial dX6_takeTurn_13 ?_
    exact hf_Jret (pc := 16) dX6_takeTurn_16 (fun _ => rfl)
/-! PlanTrial.run(LHighFall$Stair;LHighFall$Plan;I)V -/
def M_X6_run : hf_D := (yX6_run, cX6_run, 5, none, 6, 146)
def f_X6_run_77 (rec_24 : Int → hf_M Int) (x0 x1 x2 x3 x4 : Int) : hf_M Int :=
  hf_bd (hf_ret (x4 + 1)) (fun x4_77 => rec_24 x4_77)
def B_X6_run_24 (x0 x1 x2 x3 : Int) (rec_24 : Int → hf_M Int) (x4 : Int) : hf_M Int :=
  hf_cb x4 201 (201 < x4) (hf_ret 0) (hf_bd (hf_gf 6 2 x0) (fun v33 => hf_cb v33 (-1) (¬ v33 = (-1)) (hf_ret 0) (hf_bd (hf_gf 6 0 x0) (fun v41 => hf_bd (hf_gf 1 9 v41) (fun v44 => hf_bd (hf_gf 6 0 x0) (fun v48 => hf_bd (hf_gf 1 10 v48) (fun v51 => hf_cb v44 v51 (v51 ≤ v44) (hf_bd (hf_pf 6 2 x0 0) (fun _ => hf_ck (hf_inI x3) (hf_bd (hf_pf 6 3 x0 x3) (fun _ => f_X6_run_77 rec_24 x0 x1 x2 x3 x4)))) (hf_bd (hf_ob 6 x0 (f_X6_takeTurn x0 x1 x2)) (fun _ => f_X6_run_77 rec_24 x0 x1 x2 x3 x4)))))))))
def f_X6_run_24 (x0 x1 x2 x3 x4 : Int) : hf_M Int := hf_fx (fun rec s => B_X6_run_24 x0 x1 x2 x3 rec s) hf_N x4
def f_X6_run (x0 x1 x2 x3 : Int) : hf_M Int :=
  hf_bd (hf_gf 6 0 x0) (fun v1 => hf_bd (hf_ob 1 v1 (f_X1_start v1 x1 x3)) (fun _ => hf_bd (hf_pf 6 2 x0 (-1)) (fun _ => hf_bd (hf_pf 6 3 x0 (-1)) (fun _ => f_X6_run_24 x0 x1 x2 x3 0))))
theorem cal_X6_run : hf_cv M_X6_run 6 3 := ⟨⟨ii_X6, kc_X6_run, by decide, by decide, by decide +kernel⟩, ki_X6_run, kv_X6_run, _, rfl, rfl⟩
set_option maxRecDepth 20000 in
theorem j_X6_run_77 (x0 x1 x2 x3 x4 : Int) (rec_24 : Int → hf_M Int) (hrec_24 : ∀ s : Int, hf_J M_X6_run 24 [(0, 2, x0), (1, 2, x1), (2, 2, x2), (3, 0, x3), (4, 0, s)] [] (rec_24 s)) : hf_J M_X6_run 77 [(0, 2, x0), (1, 2, x1), (2, 2, x2), (3, 0, x3), (4, 0, x4)] [] (f_X6_run_77 rec_24 x0 x1 x2 x3 x4) := by
  refine hf_iincB (pc := 77) (fun y => [(4, 0, y), (0, 2, x0), (1, 2, x1), (2, 2, x2), (3, 0, x3)]) (q := 4) rfl (by decide) (fun _ => rfl) dX6_run_77 (fun x4_77 => ?_)
  refine hf_goto (pc := 80) 24 dX6_run_80 rfl ?_
  exact hf_sub [1, 2, 3, 4, 0] rfl (hrec_24 x4_77)
set_option maxRecDepth 20000 in
theorem jb_X6_run_24 (x0 x1 x2 x3 : Int) (rec_24 : Int → hf_M Int) (hrec_24 : ∀ s : Int, hf_J M_X6_run 24 [(0, 2, x0), (1, 2, x1), (2, 2, x2), (3, 0, x3), (4, 0, s)] [] (rec_24 s)) (x4 : Int) : hf_J M_X6_run 24 [(0, 2, x0), (1, 2, x1), (2, 2, x2), (3, 0, x3), (4, 0, x4)] [] (B_X6_run_24 x0 x1 x2 x3 rec_24 x4) := by
  refine hf_ild (pc := 24) 4 rfl dX6_run_24 ?_
  refine hf_sipush (pc := 26) dX6_run_26 (by decide) ?_
  refine hf_icmp_gt (pc := 29) 83 dX6_run_29 rfl ?_ ?_
  · exact hf_Jret (pc := 83) dX6_run_83 (fun _ => rfl)
  · refine hf_ald_n (pc := 32) 0 rfl rfl dX6_run_32 ?_
    refine hf_getf (pc := 33) fl_X6_27 dX6_run_33 (fun v33 => ?_)
    refine hf_iconst (pc := 36) dX6_run_36 ?_
    refine hf_icmp_ne (pc := 37) 83 dX6_run_37 rfl ?_ ?_
    · exact hf_Jret (pc := 83) dX6_run_83 (fun _ => rfl)
    · refine hf_ald_n (pc := 40) 0 rfl rfl dX6_run_40 ?_
      refine hf_getf (pc := 41) fl_X6_14 dX6_run_41 (fun v41 => ?_)
      refine hf_getf (pc := 44) fl_X6_41 dX6_run_44 (fun v44 => ?_)
      refine hf_ald_n (pc := 47) 0 rfl rfl dX6_run_47 ?_
      refine hf_getf (pc := 48) fl_X6_14 dX6_run_48 (fun v48 => ?_)
      refine hf_getf (pc := 51) fl_X6_44 dX6_run_51 (fun v51 => ?_)
      refine hf_icmp_ge (pc := 54) 66 dX6_run_54 rfl ?_ ?_
      · refine hf_ald_n (pc := 66) 0 rfl rfl dX6_run_66 ?_
        refine hf_iconst (pc := 67) dX6_run_67 ?_
        refine hf_putf (pc := 68) fl_X6_27 trivial dX6_run_68 ?_
        refine hf_ald_n (pc := 71) 0 rfl rfl dX6_run_71 ?_
        refine hf_ild_n (pc := 72) 3 rfl rfl dX6_run_72 ?_
        refine hf_i2l (pc := 73) dX6_run_73 ?_
        refine hf_putf (pc := 74) fl_X6_33 trivial dX6_run_74 ?_
        exact hf_sub [0, 1, 2, 3, 4] rfl (j_X6_run_77 x0 x1 x2 x3 x4 rec_24 hrec_24)
      · refine hf_ald_n (pc := 57) 0 rfl rfl dX6_run_57 ?_
        refine hf_ald_n (pc := 58) 1 rfl rfl dX6_run_58 ?_
        refine hf_ald_n (pc := 59) 2 rfl rfl dX6_run_59 ?_
        refine hf_cV (pc := 60) (N := M_X6_takeTurn) (ts := [2, 2]) (vs := [x1, x2]) (st := []) (fun r => []) (c_X6_takeTurn x0 x1 x2) cal_X6_takeTurn ml_X6_47 ⟨hf_le rfl, hf_le rfl⟩ (hf_le rfl) ⟨rfl, rfl⟩ rfl dX6_run_60 (fun _ => rfl) (fun _ => ?_)
        refine hf_goto (pc := 63) 77 dX6_run_63 rfl ?_
        exact hf_sub [0, 1, 2, 3, 4] rfl (j_X6_run_77 x0 x1 x2 x3 x4 rec_24 hrec_24)
set_option maxRecDepth 20000 in
theorem j_X6_run_24 (x0 x1 x2 x3 x4 : Int) : hf_J M_X6_run 24 [(0, 2, x0), (1, 2, x1), (2, 2, x2), (3, 0, x3), (4, 0, x4)] [] (f_X6_run_24 x0 x1 x2 x3 x4) :=
  hf_Jfx (L := fun s => [(0, 2, x0), (1, 2, x1), (2, 2, x2), (3, 0, x3), (4, 0, s)]) (fun rec hrec s => jb_X6_run_24 x0 x1 x2 x3 rec hrec s) hf_N x4
set_option maxRecDepth 20000 in
theorem c_X6_run (x0 x1 x2 x3 : Int) : hf_Met M_X6_run [2, 2, 2, 0] [x0, x1, x2, x3] (f_X6_run x0 x1 x2 x3) := by
  refine hf_met rfl (by decide) (by decide) (by decide) ?_
  show hf_J M_X6_run 0 [(0, 2, x0), (1, 2, x1), (2, 2, x2), (3, 0, x3)] [] _
  refine hf_ald_n (pc := 0) 0 rfl rfl dX6_run_0 ?_
  refine hf_getf (pc := 1) fl_X6_14 dX6_run_1 (fun v1 => ?_)
  refine hf_ald_n (pc := 4) 1 rfl rfl dX6_run_4 ?_
  refine hf_ild_n (pc := 5) 3 rfl rfl dX6_run_5 ?_
  refine hf_cV (pc := 6) (N := M_X1_start) (ts := [2, 0]) (vs := [x1, x3]) (st := []) (fun r => []) (c_X1_start v1 x1 x3) cal_X1_start ml_X6_37 ⟨hf_le rfl, hf_le rfl⟩ (hf_le rfl) ⟨rfl, rfl⟩ rfl dX6_run_6 (fun _ => rfl) (fun _ => ?_)
  refine hf_ald_n (pc := 9) 0 rfl rfl dX6_run_9 ?_
  refine hf_iconst (pc := 10) dX6_run_10 ?_
  refine hf_putf (pc := 11) fl_X6_27 trivial dX6_run_11 ?_
  refine hf_ald_n (pc := 14) 0 rfl rfl dX6_run_14 ?_
  refine hf_ldc2 (pc := 15) (n := (-1)) co_X6_31 (by decide) dX6_run_15 ?_
  refine hf_putf (pc := 18) fl_X6_33 trivial dX6_run_18 ?_
  refine hf_iconst (pc := 21) dX6_run_21 ?_
  refine hf_ist (pc := 22) (lv' := [(4, 0, 0), (0, 2, x0), (1, 2, x1), (2, 2, x2), (3, 0, x3)]) (by decide) rfl dX6_run_22 ?_
  exact hf_sub [1, 2, 3, 4, 0] rfl (j_X6_run_24 x0 x1 x2 x3 0)
/-! PlanTrial.shareOf(II)J -/
def M_X6_shareOf : hf_D := (yX6_shareOf, cX6_shareOf, 3, some .long, 0, 0)
def f_X6_shareOf (x0 x1 x2 : Int) : hf_M Int :=
  hf_ck (hf_inI x1) (hf_it (x1 = 0) (hf_bd (hf_gf 6 0 x0) (fun v37 => hf_bd (hf_gf 1 11 v37) (fun v40 => hf_ck (hf_inI v40) (hf_ret v40)))) (hf_it (x1 = 1) (hf_bd (hf_gf 6 0 x0) (fun v46 => hf_bd (hf_gf 1 13 v46) (fun v49 => hf_ck (hf_inI v49) (hf_ret v49)))) (hf_it (x1 = 2) (hf_ck (hf_inI x2) (hf_bd (hf_gf 6 0 x0) (fun v57 => hf_bd (hf_gf 1 11 v57) (fun v60 => hf_ck (hf_inI v60) (hf_ret (x2 * v60)))))) (hf_it (x1 = 3) (hf_ck (hf_inI x2) (hf_bd (hf_gf 6 0 x0) (fun v69 => hf_bd (hf_gf 1 13 v69) (fun v72 => hf_ck (hf_inI v72) (hf_ret (x2 * v72)))))) (hf_it (x1 = 4) (hf_bd (hf_gf 6 2 x0) (fun v79 => hf_cb v79 2 (¬ v79 = 2) (hf_ret 0) (hf_ck (hf_inI x2) (hf_ret x2)))) (hf_bd (hf_gf 6 2 x0) (fun v94 => hf_cb v94 3 (¬ v94 = 3) (hf_ret 0) (hf_ck (hf_inI x2) (hf_ret x2)))))))))
theorem cal_X6_shareOf : hf_cv M_X6_shareOf 6 2 := ⟨⟨ii_X6, kc_X6_shareOf, by decide, by decide, by decide +kernel⟩, ki_X6_shareOf, kv_X6_shareOf, _, rfl, rfl⟩
set_option maxRecDepth 20000 in
theorem c_X6_shareOf (x0 x1 x2 : Int) : hf_Met M_X6_shareOf [2, 0, 0] [x0, x1, x2] (f_X6_shareOf x0 x1 x2) := by
  refine hf_met rfl (by decide) (by decide) (by decide) ?_
  show hf_J M_X6_shareOf 0 [(0, 2, x0), (1, 0, x1), (2, 0, x2)] [] _
  refine hf_ild_n (pc := 0) 1 rfl rfl dX6_shareOf_0 ?_
  refine hf_Jck (fun hr => ?_)
  refine hf_Jit (fun hc0 => ?_) (fun hc0 => ?_)
  · refine hf_tsw (pc := 1) 36 35 hr dX6_shareOf_1 (by omega) (by omega) (by rw [hc0]; rfl) rfl ?_
    refine hf_ald_n (pc := 36) 0 rfl rfl dX6_shareOf_36 ?_
    refine hf_getf (pc := 37) fl_X6_14 dX6_shareOf_37 (fun v37 => ?_)
    refine hf_getf (pc := 40) fl_X6_104 dX6_shareOf_40 (fun v40 => ?_)
    refine hf_i2l (pc := 43) dX6_shareOf_43 ?_
    exact hf_Jret (pc := 44) dX6_shareOf_44 (fun _ => rfl)
  · refine hf_Jit (fun hc1 => ?_) (fun hc1 => ?_)
    · refine hf_tsw (pc := 1) 45 44 hr dX6_shareOf_1 (by omega) (by omega) (by rw [hc1]; rfl) rfl ?_
      refine hf_ald_n (pc := 45) 0 rfl rfl dX6_shareOf_45 ?_
      refine hf_getf (pc := 46) fl_X6_14 dX6_shareOf_46 (fun v46 => ?_)
      refine hf_getf (pc := 49) fl_X6_107 dX6_shareOf_49 (fun v49 => ?_)
      refine hf_i2l (pc := 52) dX6_shareOf_52 ?_
      exact hf_Jret (pc := 53) dX6_shareOf_53 (fun _ => rfl)
    · refine hf_Jit (fun hc2 => ?_) (fun hc2 => ?_)
      · refine hf_tsw (pc := 1) 54 53 hr dX6_shareOf_1 (by omega) (by omega) (by rw [hc2]; rfl) rfl ?_
        refine hf_ild_n (pc := 54) 2 rfl rfl dX6_shareOf_54 ?_
        refine hf_i2l (pc := 55) dX6_shareOf_55 ?_
        refine hf_ald_n (pc := 56) 0 rfl rfl dX6_shareOf_56 ?_
        refine hf_getf (pc := 57) fl_X6_14 dX6_shareOf_57 (fun v57 => ?_)
        refine hf_getf (pc := 60) fl_X6_104 dX6_shareOf_60 (fun v60 => ?_)
        refine hf_i2l (pc := 63) dX6_shareOf_63 ?_
        refine hf_lmul (pc := 64) dX6_shareOf_64 ?_
        exact hf_Jret (pc := 65) dX6_shareOf_65 (fun _ => rfl)
      · refine hf_Jit (fun hc3 => ?_) (fun hc3 => ?_)
        · refine hf_tsw (pc := 1) 66 65 hr dX6_shareOf_1 (by omega) (by omega) (by rw [hc3]; rfl) rfl ?_
          refine hf_ild_n (pc := 66) 2 rfl rfl dX6_shareOf_66 ?_
          refine hf_i2l (pc := 67) dX6_shareOf_67 ?_
          refine hf_ald_n (pc := 68) 0 rfl rfl dX6_shareOf_68 ?_
          refine hf_getf (pc := 69) fl_X6_14 dX6_shareOf_69 (fun v69 => ?_)
          refine hf_getf (pc := 72) fl_X6_107 dX6_shareOf_72 (fun v72 => ?_)
          refine hf_i2l (pc := 75) dX6_shareOf_75 ?_
          refine hf_lmul (pc := 76) dX6_shareOf_76 ?_
          exact hf_Jret (pc := 77) dX6_shareOf_77 (fun _ => rfl)
        · refine hf_Jit (fun hc4 => ?_) (fun hc4 => ?_)
          · refine hf_tsw (pc := 1) 78 77 hr dX6_shareOf_1 (by omega) (by omega) (by rw [hc4]; rfl) rfl ?_
            refine hf_ald_n (pc := 78) 0 rfl rfl dX6_shareOf_78 ?_
            refine hf_getf (pc := 79) fl_X6_27 dX6_shareOf_79 (fun v79 => ?_)
            refine hf_iconst (pc := 82) dX6_shareOf_82 ?_
            refine hf_icmp_ne (pc := 83) 91 dX6_shareOf_83 rfl ?_ ?_
            · refine hf_lconst (pc := 91) (v := 0) dX6_shareOf_91 (by decide) ?_
              exact hf_Jret (pc := 92) dX6_shareOf_92 (fun _ => rfl)
            · refine hf_ild_n (pc := 86) 2 rfl rfl dX6_shareOf_86 ?_
              refine hf_i2l (pc := 87) dX6_shareOf_87 ?_
              refine hf_goto (pc := 88) 92 dX6_shareOf_88 rfl ?_
              exact hf_Jret (pc := 92) dX6_shareOf_92 (fun _ => rfl)
          · refine hf_tswd (pc := 1) 93 hr dX6_shareOf_1 (by omega) rfl ?_
            refine hf_ald_n (pc := 93) 0 rfl rfl dX6_shareOf_93 ?_
            refine hf_getf (pc := 94) fl_X6_27 dX6_shareOf_94 (fun v94 => ?_)
            refine hf_iconst (pc := 97) dX6_shareOf_97 ?_
            refine hf_icmp_ne (pc := 98) 106 dX6_shareOf_98 rfl ?_ ?_
            · refine hf_lconst (pc := 106) (v := 0) dX6_shareOf_106 (by decide) ?_
              exact hf_Jret (pc := 107) dX6_shareOf_107 (fun _ => rfl)
            · refine hf_ild_n (pc := 101) 2 rfl rfl dX6_shareOf_101 ?_
              refine hf_i2l (pc := 102) dX6_shareOf_102 ?_
              refine hf_goto (pc := 103) 107 dX6_shareOf_103 rfl ?_
              exact hf_Jret (pc := 107) dX6_shareOf_107 (fun _ => rfl)
