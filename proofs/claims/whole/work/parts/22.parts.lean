/-! Plan.<init>()V -/
def M_X4_init : hf_D := (yX4_init, cX4_init, 1, none, 1, 20)
def f_X4_init (x0 : Int) : hf_M Int :=
  hf_ob 4 x0 (hf_bd (hf_pf 4 0 x0 0) (fun _ => hf_bd (hf_pf 4 1 x0 0) (fun _ => hf_bd (hf_na 20 12) (fun v17 => hf_bd (hf_pf 4 2 x0 v17) (fun _ => hf_bd (hf_na 20 12) (fun v25 => hf_bd (hf_pf 4 3 x0 v25) (fun _ => hf_bd (hf_na 20 12) (fun v33 => hf_bd (hf_pf 4 4 x0 v33) (fun _ => hf_bd (hf_na 20 64) (fun v41 => hf_bd (hf_pf 4 5 x0 v41) (fun _ => hf_ret 0)))))))))))
theorem cal_X4_init : hf_cix M_X4_init 0 := ⟨⟨ii_X4, kc_X4_init, by decide, by decide, by decide +kernel⟩, ki_X4_init, rfl⟩
set_option maxRecDepth 20000 in
theorem c_X4_init (x0 : Int) : hf_Met M_X4_init [2] [x0] (f_X4_init x0) := by
  refine hf_met rfl (by decide) (by decide) (by decide) ?_
  show hf_J M_X4_init 0 [(0, 2, x0)] [] _
  refine hf_ald_n (pc := 0) 0 rfl rfl dX4_init_0 ?_
  refine hf_objinit (pc := 1) 4 ml_X4_1 oi_in oi_co ⟨hf_le rfl, hf_le rfl⟩ dX4_init_1 ?_
  refine hf_ald_n (pc := 4) 0 rfl rfl dX4_init_4 ?_
  refine hf_iconst (pc := 5) dX4_init_5 ?_
  refine hf_putf (pc := 6) fl_X4_7 trivial dX4_init_6 ?_
  refine hf_ald_n (pc := 9) 0 rfl rfl dX4_init_9 ?_
  refine hf_iconst (pc := 10) dX4_init_10 ?_
  refine hf_putf (pc := 11) fl_X4_13 trivial dX4_init_11 ?_
  refine hf_ald_n (pc := 14) 0 rfl rfl dX4_init_14 ?_
  refine hf_bipush (pc := 15) dX4_init_15 (by decide) ?_
  refine hf_newa0 (pc := 17) (tg := 20) (by decide) (by decide) rfl ac_int dX4_init_17 (fun v17 => ?_)
  refine hf_putfF (pc := 19) fl_X4_16 rfl (fun q hq => by cases hq; rfl) trivial dX4_init_19 ?_
  refine hf_ald_n (pc := 22) 0 rfl rfl dX4_init_22 ?_
  refine hf_bipush (pc := 23) dX4_init_23 (by decide) ?_
  refine hf_newa0 (pc := 25) (tg := 20) (by decide) (by decide) rfl ac_int dX4_init_25 (fun v25 => ?_)
  refine hf_putfF (pc := 27) fl_X4_20 rfl (fun q hq => by cases hq; rfl) trivial dX4_init_27 ?_
  refine hf_ald_n (pc := 30) 0 rfl rfl dX4_init_30 ?_
  refine hf_bipush (pc := 31) dX4_init_31 (by decide) ?_
  refine hf_newa0 (pc := 33) (tg := 20) (by decide) (by decide) rfl ac_int dX4_init_33 (fun v33 => ?_)
  refine hf_putfF (pc := 35) fl_X4_23 rfl (fun q hq => by cases hq; rfl) trivial dX4_init_35 ?_
  refine hf_ald_n (pc := 38) 0 rfl rfl dX4_init_38 ?_
  refine hf_bipush (pc := 39) dX4_init_39 (by decide) ?_
  refine hf_newa0 (pc := 41) (tg := 20) (by decide) (by decide) rfl ac_int dX4_init_41 (fun v41 => ?_)
  refine hf_putfF (pc := 43) fl_X4_26 rfl (fun q hq => by cases hq; rfl) trivial dX4_init_43 ?_
  exact hf_Jret (pc := 46) dX4_init_46 (fun _ => rfl)
/-! Course.<init>(I)V -/
def M_X1_init : hf_D := (yX1_init, cX1_init, 2, none, 1, 20)
def f_X1_init (x0 x1 : Int) : hf_M Int :=
  hf_ob 1 x0 (hf_bd (hf_na 20 3) (fun v6 => hf_bd (hf_pf 1 7 x0 v6) (fun _ => hf_bd (hf_pf 1 8 x0 0) (fun _ => hf_bd (hf_pf 1 9 x0 0) (fun _ => hf_bd (hf_pf 1 10 x0 0) (fun _ => hf_bd (hf_pf 1 11 x0 0) (fun _ => hf_bd (hf_pf 1 12 x0 0) (fun _ => hf_bd (hf_pf 1 13 x0 0) (fun _ => hf_bd (hf_pf 1 0 x0 x1) (fun _ => hf_bd (hf_na 20 x1) (fun v48 => hf_bd (hf_pf 1 1 x0 v48) (fun _ => hf_bd (hf_na 20 x1) (fun v55 => hf_bd (hf_pf 1 2 x0 v55) (fun _ => hf_bd (hf_na 20 x1) (fun v62 => hf_bd (hf_pf 1 3 x0 v62) (fun _ => hf_bd (hf_na 20 x1) (fun v69 => hf_bd (hf_pf 1 4 x0 v69) (fun _ => hf_bd (hf_na 20 x1) (fun v76 => hf_bd (hf_pf 1 5 x0 v76) (fun _ => hf_bd (hf_na 20 x1) (fun v83 => hf_bd (hf_pf 1 6 x0 v83) (fun _ => hf_ret 0))))))))))))))))))))))
theorem cal_X1_init : hf_cix M_X1_init 1 := ⟨⟨ii_X1, kc_X1_init, by decide, by decide, by decide +kernel⟩, ki_X1_init, rfl⟩
set_option maxRecDepth 20000 in
theorem c_X1_init (x0 x1 : Int) : hf_Met M_X1_init [2, 0] [x0, x1] (f_X1_init x0 x1) := by
  refine hf_met rfl (by decide) (by decide) (by decide) ?_
  show hf_J M_X1_init 0 [(0, 2, x0), (1, 0, x1)] [] _
  refine hf_ald_n (pc := 0) 0 rfl rfl dX1_init_0 ?_
  refine hf_objinit (pc := 1) 1 ml_X1_3 oi_in oi_co ⟨hf_le rfl, hf_le rfl⟩ dX1_init_1 ?_
  refine hf_ald_n (pc := 4) 0 rfl rfl dX1_init_4 ?_
  refine hf_iconst (pc := 5) dX1_init_5 ?_
  refine hf_newa0 (pc := 6) (tg := 20) (by decide) (by decide) rfl ac_int dX1_init_6 (fun v6 => ?_)
  refine hf_putfF (pc := 8) fl_X1_9 rfl (fun q hq => by cases hq; rfl) trivial dX1_init_8 ?_
  refine hf_ald_n (pc := 11) 0 rfl rfl dX1_init_11 ?_
  refine hf_iconst (pc := 12) dX1_init_12 ?_
  refine hf_putf (pc := 13) fl_X1_15 trivial dX1_init_13 ?_
  refine hf_ald_n (pc := 16) 0 rfl rfl dX1_init_16 ?_
  refine hf_iconst (pc := 17) dX1_init_17 ?_
  refine hf_putf (pc := 18) fl_X1_19 trivial dX1_init_18 ?_
  refine hf_ald_n (pc := 21) 0 rfl rfl dX1_init_21 ?_
  refine hf_iconst (pc := 22) dX1_init_22 ?_
  refine hf_putf (pc := 23) fl_X1_22 trivial dX1_init_23 ?_
  refine hf_ald_n (pc := 26) 0 rfl rfl dX1_init_26 ?_
  refine hf_iconst (pc := 27) dX1_init_27 ?_
  refine hf_putf (pc := 28) fl_X1_25 trivial dX1_init_28 ?_
  refine hf_ald_n (pc := 31) 0 rfl rfl dX1_init_31 ?_
  refine hf_iconst (pc := 32) dX1_init_32 ?_
  refine hf_putf (pc := 33) fl_X1_28 trivial dX1_init_33 ?_
  refine hf_ald_n (pc := 36) 0 rfl rfl dX1_init_36 ?_
  refine hf_iconst (pc := 37) dX1_init_37 ?_
  refine hf_putf (pc := 38) fl_X1_31 trivial dX1_init_38 ?_
  refine hf_ald_n (pc := 41) 0 rfl rfl dX1_init_41 ?_
  refine hf_ild_n (pc := 42) 1 rfl rfl dX1_init_42 ?_
  refine hf_putfF (pc := 43) fl_X1_34 rfl (fun q hq => by cases hq; rfl) trivial dX1_init_43 ?_
  refine hf_ald_n (pc := 46) 0 rfl rfl dX1_init_46 ?_
  refine hf_ild_n (pc := 47) 1 rfl rfl dX1_init_47 ?_
  refine hf_newa0 (pc := 48) (tg := 20) (by decide) (by decide) rfl ac_int dX1_init_48 (fun v48 => ?_)
  refine hf_putfF (pc := 50) fl_X1_37 rfl (fun q hq => by cases hq; rfl) trivial dX1_init_50 ?_
  refine hf_ald_n (pc := 53) 0 rfl rfl dX1_init_53 ?_
  refine hf_ild_n (pc := 54) 1 rfl rfl dX1_init_54 ?_
  refine hf_newa0 (pc := 55) (tg := 20) (by decide) (by decide) rfl ac_int dX1_init_55 (fun v55 => ?_)
  refine hf_putfF (pc := 57) fl_X1_40 rfl (fun q hq => by cases hq; rfl) trivial dX1_init_57 ?_
  refine hf_ald_n (pc := 60) 0 rfl rfl dX1_init_60 ?_
  refine hf_ild_n (pc := 61) 1 rfl rfl dX1_init_61 ?_
  refine hf_newa0 (pc := 62) (tg := 20) (by decide) (by decide) rfl ac_int dX1_init_62 (fun v62 => ?_)
  refine hf_putfF (pc := 64) fl_X1_43 rfl (fun q hq => by cases hq; rfl) trivial dX1_init_64 ?_
  refine hf_ald_n (pc := 67) 0 rfl rfl dX1_init_67 ?_
  refine hf_ild_n (pc := 68) 1 rfl rfl dX1_init_68 ?_
  refine hf_newa0 (pc := 69) (tg := 20) (by decide) (by decide) rfl ac_int dX1_init_69 (fun v69 => ?_)
  refine hf_putfF (pc := 71) fl_X1_46 rfl (fun q hq => by cases hq; rfl) trivial dX1_init_71 ?_
  refine hf_ald_n (pc := 74) 0 rfl rfl dX1_init_74 ?_
  refine hf_ild_n (pc := 75) 1 rfl rfl dX1_init_75 ?_
  refine hf_newa0 (pc := 76) (tg := 20) (by decide) (by decide) rfl ac_int dX1_init_76 (fun v76 => ?_)
  refine hf_putfF (pc := 78) fl_X1_49 rfl (fun q hq => by cases hq; rfl) trivial dX1_init_78 ?_
  refine hf_ald_n (pc := 81) 0 rfl rfl dX1_init_81 ?_
  refine hf_ild_n (pc := 82) 1 rfl rfl dX1_init_82 ?_
  refine hf_newa0 (pc := 83) (tg := 20) (by decide) (by decide) rfl ac_int dX1_init_83 (fun v83 => ?_)
  refine hf_putfF (pc := 85) fl_X1_52 rfl (fun q hq => by cases hq; rfl) trivial dX1_init_85 ?_
  exact hf_Jret (pc := 88) dX1_init_88 (fun _ => rfl)
/-! WeakTable.<init>()V -/
def M_X10_init : hf_D := (yX10_init, cX10_init, 1, none, 1, 20)
def f_X10_init (x0 : Int) : hf_M Int :=
  hf_ob 10 x0 (hf_bd (hf_na 20 0) (fun v6 => hf_bd (hf_pf 10 0 x0 v6) (fun _ => hf_bd (hf_na 20 0) (fun v13 => hf_bd (hf_pf 10 1 x0 v13) (fun _ => hf_bd (hf_na 20 0) (fun v20 => hf_bd (hf_pf 10 2 x0 v20) (fun _ => hf_bd (hf_pf 10 3 x0 0) (fun _ => hf_bd (hf_pf 10 4 x0 0) (fun _ => hf_bd (hf_pf 10 5 x0 0) (fun _ => hf_ret 0))))))))))
theorem cal_X10_init : hf_cix M_X10_init 0 := ⟨⟨ii_X10, kc_X10_init, by decide, by decide, by decide +kernel⟩, ki_X10_init, rfl⟩
set_option maxRecDepth 20000 in
theorem c_X10_init (x0 : Int) : hf_Met M_X10_init [2] [x0] (f_X10_init x0) := by
  refine hf_met rfl (by decide) (by decide) (by decide) ?_
  show hf_J M_X10_init 0 [(0, 2, x0)] [] _
  refine hf_ald_n (pc := 0) 0 rfl rfl dX10_init_0 ?_
  refine hf_objinit (pc := 1) 10 ml_X10_3 oi_in oi_co ⟨hf_le rfl, hf_le rfl⟩ dX10_init_1 ?_
  refine hf_ald_n (pc := 4) 0 rfl rfl dX10_init_4 ?_
  refine hf_iconst (pc := 5) dX10_init_5 ?_
  refine hf_newa0 (pc := 6) (tg := 20) (by decide) (by decide) rfl ac_int dX10_init_6 (fun v6 => ?_)
  refine hf_putf (pc := 8) fl_X10_9 trivial dX10_init_8 ?_
  refine hf_ald_n (pc := 11) 0 rfl rfl dX10_init_11 ?_
  refine hf_iconst (pc := 12) dX10_init_12 ?_
  refine hf_newa0 (pc := 13) (tg := 20) (by decide) (by decide) rfl ac_int dX10_init_13 (fun v13 => ?_)
  refine hf_putf (pc := 15) fl_X10_15 trivial dX10_init_15 ?_
  refine hf_ald_n (pc := 18) 0 rfl rfl dX10_init_18 ?_
  refine hf_iconst (pc := 19) dX10_init_19 ?_
  refine hf_newa0 (pc := 20) (tg := 20) (by decide) (by decide) rfl ac_int dX10_init_20 (fun v20 => ?_)
  refine hf_putf (pc := 22) fl_X10_18 trivial dX10_init_22 ?_
  refine hf_ald_n (pc := 25) 0 rfl rfl dX10_init_25 ?_
  refine hf_iconst (pc := 26) dX10_init_26 ?_
  refine hf_putf (pc := 27) fl_X10_21 trivial dX10_init_27 ?_
  refine hf_ald_n (pc := 30) 0 rfl rfl dX10_init_30 ?_
  refine hf_iconst (pc := 31) dX10_init_31 ?_
  refine hf_putf (pc := 32) fl_X10_25 trivial dX10_init_32 ?_
  refine hf_ald_n (pc := 35) 0 rfl rfl dX10_init_35 ?_
  refine hf_iconst (pc := 36) dX10_init_36 ?_
  refine hf_putf (pc := 37) fl_X10_28 trivial dX10_init_37 ?_
  exact hf_Jret (pc := 40) dX10_init_40 (fun _ => rfl)
/-! LieTable.<init>()V -/
def M_X2_init : hf_D := (yX2_init, cX2_init, 1, none, 1, 20)
def f_X2_init (x0 : Int) : hf_M Int :=
  hf_ob 2 x0 (hf_bd (hf_na 22 0) (fun v6 => hf_bd (hf_pf 2 0 x0 v6) (fun _ => hf_bd (hf_pf 2 1 x0 0) (fun _ => hf_ret 0))))
theorem cal_X2_init : hf_cix M_X2_init 0 := ⟨⟨ii_X2, kc_X2_init, by decide, by decide, by decide +kernel⟩, ki_X2_init, rfl⟩
set_option maxRecDepth 20000 in
theorem c_X2_init (x0 : Int) : hf_Met M_X2_init [2] [x0] (f_X2_init x0) := by
  refine hf_met rfl (by decide) (by decide) (by decide) ?_
  show hf_J M_X2_init 0 [(0, 2, x0)] [] _
  refine hf_ald_n (pc := 0) 0 rfl rfl dX2_init_0 ?_
  refine hf_objinit (pc := 1) 2 ml_X2_3 oi_in oi_co ⟨hf_le rfl, hf_le rfl⟩ dX2_init_1 ?_
  refine hf_ald_n (pc := 4) 0 rfl rfl dX2_init_4 ?_
  refine hf_iconst (pc := 5) dX2_init_5 ?_
  refine hf_newa0 (pc := 6) (tg := 22) (by decide) (by decide) rfl ac_byte dX2_init_6 (fun v6 => ?_)
  refine hf_putf (pc := 8) fl_X2_9 trivial dX2_init_8 ?_
  refine hf_ald_n (pc := 11) 0 rfl rfl dX2_init_11 ?_
  refine hf_iconst (pc := 12) dX2_init_12 ?_
  refine hf_putf (pc := 13) fl_X2_15 trivial dX2_init_13 ?_
  exact hf_Jret (pc := 16) dX2_init_16 (fun _ => rfl)
/-! NoteBook.<init>()V -/
def M_X3_init : hf_D := (yX3_init, cX3_init, 1, none, 1, 20)
def f_X3_init (x0 : Int) : hf_M Int :=
  hf_ob 3 x0 (hf_bd (hf_pf 3 0 x0 0) (fun _ => hf_bd (hf_na 20 40) (fun v12 => hf_bd (hf_pf 3 1 x0 v12) (fun _ => hf_bd (hf_na 20 40) (fun v20 => hf_bd (hf_pf 3 2 x0 v20) (fun _ => hf_bd (hf_na 20 40) (fun v28 => hf_bd (hf_pf 3 3 x0 v28) (fun _ => hf_bd (hf_na 23 40) (fun v36 => hf_bd (hf_pf 3 4 x0 v36) (fun _ => hf_bd (hf_na 20 40) (fun v44 => hf_bd (hf_pf 3 5 x0 v44) (fun _ => hf_bd (hf_na 23 40) (fun v52 => hf_bd (hf_pf 3 6 x0 v52) (fun _ => hf_bd (hf_na 23 41) (fun v60 => hf_bd (hf_pf 3 7 x0 v60) (fun _ => hf_ret 0))))))))))))))))
theorem cal_X3_init : hf_cix M_X3_init 0 := ⟨⟨ii_X3, kc_X3_init, by decide, by decide, by decide +kernel⟩, ki_X3_init, rfl⟩
set_option maxRecDepth 20000 in
theorem c_X3_init (x0 : Int) : hf_Met M_X3_init [2] [x0] (f_X3_init x0) := by
  refine hf_met rfl (by decide) (by decide) (by decide) ?_
  show hf_J M_X3_init 0 [(0, 2, x0)] [] _
  refine hf_ald_n (pc := 0) 0 rfl rfl dX3_init_0 ?_
  refine hf_objinit (pc := 1) 3 ml_X3_3 oi_in oi_co ⟨hf_le rfl, hf_le rfl⟩ dX3_init_1 ?_
  refine hf_ald_n (pc := 4) 0 rfl rfl dX3_init_4 ?_
  refine hf_iconst (pc := 5) dX3_init_5 ?_
  refine hf_putf (pc := 6) fl_X3_9 trivial dX3_init_6 ?_
  refine hf_ald_n (pc := 9) 0 rfl rfl dX3_init_9 ?_
  refine hf_bipush (pc := 10) dX3_init_10 (by decide) ?_
  refine hf_newa0 (pc := 12) (tg := 20) (by decide) (by decide) rfl ac_int dX3_init_12 (fun v12 => ?_)
  refine hf_putfF (pc := 14) fl_X3_15 rfl (fun q hq => by cases hq; rfl) trivial dX3_init_14 ?_
  refine hf_ald_n (pc := 17) 0 rfl rfl dX3_init_17 ?_
  refine hf_bipush (pc := 18) dX3_init_18 (by decide) ?_
  refine hf_newa0 (pc := 20) (tg := 20) (by decide) (by decide) rfl ac_int dX3_init_20 (fun v20 => ?_)
  refine hf_putfF (pc := 22) fl_X3_19 rfl (fun q hq => by cases hq; rfl) trivial dX3_init_22 ?_
  refine hf_ald_n (pc := 25) 0 rfl rfl dX3_init_25 ?_
  refine hf_bipush (pc := 26) dX3_init_26 (by decide) ?_
  refine hf_newa0 (pc := 28) (tg := 20) (by decide) (by decide) rfl ac_int dX3_init_28 (fun v28 => ?_)
  refine hf_putfF (pc := 30) fl_X3_22 rfl (fun q hq => by cases hq; rfl) trivial dX3_init_30 ?_
  refine hf_ald_n (pc := 33) 0 rfl rfl dX3_init_33 ?_
  refine hf_bipush (pc := 34) dX3_init_34 (by decide) ?_
  refine hf_newa0 (pc := 36) (tg := 23) (by decide) (by decide) rfl ac_boolean dX3_init_36 (fun v36 => ?_)
  refine hf_putfF (pc := 38) fl_X3_25 rfl (fun q hq => by cases hq; rfl) trivial dX3_init_38 ?_
  refine hf_ald_n (pc := 41) 0 rfl rfl dX3_init_41 ?_
  refine hf_bipush (pc := 42) dX3_init_42 (by decide) ?_
  refine hf_newa0 (pc := 44) (tg := 20) (by decide) (by decide) rfl ac_int dX3_init_44 (fun v44 => ?_)
  refine hf_putfF (pc := 46) fl_X3_29 rfl (fun q hq => by cases hq; rfl) trivial dX3_init_46 ?_
  refine hf_ald_n (pc := 49) 0 rfl rfl dX3_init_49 ?_
  refine hf_bipush (pc := 50) dX3_init_50 (by decide) ?_
  refine hf_newa0 (pc := 52) (tg := 23) (by decide) (by decide) rfl ac_boolean dX3_init_52 (fun v52 => ?_)
  refine hf_putfF (pc := 54) fl_X3_32 rfl (fun q hq => by cases hq; rfl) trivial dX3_init_54 ?_
  refine hf_ald_n (pc := 57) 0 rfl rfl dX3_init_57 ?_
  refine hf_bipush (pc := 58) dX3_init_58 (by decide) ?_
  refine hf_newa0 (pc := 60) (tg := 23) (by decide) (by decide) rfl ac_boolean dX3_init_60 (fun v60 => ?_)
  refine hf_putfF (pc := 62) fl_X3_35 rfl (fun q hq => by cases hq; rfl) trivial dX3_init_62 ?_
  exact hf_Jret (pc := 65) dX3_init_65 (fun _ => rfl)
/-! NoteBook.clear()V -/
def M_X3_clear : hf_D := (yX3_clear, cX3_clear, 1, none, 0, 0)
def f_X3_clear (x0 : Int) : hf_M Int :=
  hf_bd (hf_pf 3 0 x0 0) (fun _ => hf_ret 0)
theorem cal_X3_clear : hf_cv M_X3_clear 3 0 := ⟨⟨ii_X3, kc_X3_clear, by decide, by decide, by decide +kernel⟩, ki_X3_clear, kv_X3_clear, _, rfl, rfl⟩
set_option maxRecDepth 20000 in
theorem c_X3_clear (x0 : Int) : hf_Met M_X3_clear [2] [x0] (f_X3_clear x0) := by
  refine hf_met rfl (by decide) (by decide) (by decide) ?_
  show hf_J M_X3_clear 0 [(0, 2, x0)] [] _
  refine hf_ald_n (pc := 0) 0 rfl rfl dX3_clear_0 ?_
  refine hf_iconst (pc := 1) dX3_clear_1 ?_
  refine hf_putf (pc := 2) fl_X3_9 trivial dX3_clear_2 ?_
  exact hf_Jret (pc := 5) dX3_clear_5 (fun _ => rfl)
/-! Plan.clear()V -/
def M_X4_clear : hf_D := (yX4_clear, cX4_clear, 1, none, 0, 0)
def f_X4_clear (x0 : Int) : hf_M Int :=
  hf_bd (hf_pf 4 0 x0 0) (fun _ => hf_bd (hf_pf 4 1 x0 0) (fun _ => hf_ret 0))
theorem cal_X4_clear : hf_cv M_X4_clear 4 0 := ⟨⟨ii_X4, kc_X4_clear, by decide, by decide, by decide +kernel⟩, ki_X4_clear, kv_X4_clear, _, rfl, rfl⟩
set_option maxRecDepth 20000 in
theorem c_X4_clear (x0 : Int) : hf_Met M_X4_clear [2] [x0] (f_X4_clear x0) := by
  refine hf_met rfl (by decide) (by decide) (by decide) ?_
  show hf_J M_X4_clear 0 [(0, 2, x0)] [] _
  refine hf_ald_n (pc := 0) 0 rfl rfl dX4_clear_0 ?_
  refine hf_iconst (pc := 1) dX4_clear_1 ?_
  refine hf_putf (pc := 2) fl_X4_7 trivial dX4_clear_2 ?_
  refine hf_ald_n (pc := 5) 0 rfl rfl dX4_clear_5 ?_
  refine hf_iconst (pc := 6) dX4_clear_6 ?_
  refine hf_putf (pc := 7) fl_X4_13 trivial dX4_clear_7 ?_
  exact hf_Jret (pc := 10) dX4_clear_10 (fun _ => rfl)
/-! Course.start(LHighFall$Stair;I)V -/
def M_X1_start : hf_D := (yX1_start, cX1_start, 4, none, 0, 0)
def B_X1_start_2 (x0 x1 x2 : Int) (rec_2 : Int → hf_M Int) (x3 : Int) : hf_M Int :=
  hf_cb x3 3 (3 ≤ x3) (hf_bd (hf_pf 1 8 x0 x2) (fun _ => hf_bd (hf_pf 1 9 x0 0) (fun _ => hf_bd (hf_gf 8 0 x1) (fun v37 => hf_bd (hf_pf 1 10 x0 v37) (fun _ => hf_bd (hf_pf 1 11 x0 0) (fun _ => hf_bd (hf_pf 1 12 x0 0) (fun _ => hf_bd (hf_pf 1 13 x0 0) (fun _ => hf_ret 0)))))))) (hf_bd (hf_gf 1 7 x0) (fun v8 => hf_bd (hf_gf 8 2 x1) (fun v13 => hf_bd (hf_al 20 v13 x3) (fun v17 => hf_bd (hf_as 20 v8 x3 v17) (fun _ => hf_bd (hf_ret (x3 + 1)) (fun x3_19 => rec_2 x3_19))))))
def f_X1_start_2 (x0 x1 x2 x3 : Int) : hf_M Int := hf_fx (fun rec s => B_X1_start_2 x0 x1 x2 rec s) hf_N x3
def f_X1_start (x0 x1 x2 : Int) : hf_M Int :=
  f_X1_start_2 x0 x1 x2 0
theorem cal_X1_start : hf_cv M_X1_start 1 2 := ⟨⟨ii_X1, kc_X1_start, by decide, by decide, by decide +kernel⟩, ki_X1_start, kv_X1_start, _, rfl, rfl⟩
set_option maxRecDepth 20000 in
theorem jb_X1_start_2 (x0 x1 x2 : Int) (rec_2 : Int → hf_M Int) (hrec_2 : ∀ s : Int, hf_J M_X1_start 2 [(0, 2, x0), (1, 2, x1), (2, 0, x2), (3, 0, s)] [] (rec_2 s)) (x3 : Int) : hf_J M_X1_start 2 [(0, 2, x0), (1, 2, x1), (2, 0, x2), (3, 0, x3)] [] (B_X1_start_2 x0 x1 x2 rec_2 x3) := by
  refine hf_ild_n (pc := 2) 3 rfl rfl dX1_start_2 ?_
  refine hf_iconst (pc := 3) dX1_start_3 ?_
  refine hf_icmp_ge (pc := 4) 25 dX1_start_4 rfl ?_ ?_
  · refine hf_ald_n (pc := 25) 0 rfl rfl dX1_start_25 ?_
    refine hf_ild_n (pc := 26) 2 rfl rfl dX1_start_26 ?_
    refine hf_putf (pc := 27) fl_X1_15 trivial dX1_start_27 ?_
    refine hf_ald_n (pc := 30) 0 rfl rfl dX1_start_30 ?_
    refine hf_iconst (pc := 31) dX1_start_31 ?_
    refine hf_putf (pc := 32) fl_X1_19 trivial dX1_start_32 ?_
    refine hf_ald_n (pc := 35) 0 rfl rfl dX1_start_35 ?_
    refine hf_ald_n (pc := 36) 1 rfl rfl dX1_start_36 ?_
    refine hf_getf (pc := 37) fl_X1_60 dX1_start_37 (fun v37 => ?_)
    refine hf_putf (pc := 40) fl_X1_22 trivial dX1_start_40 ?_
    refine hf_ald_n (pc := 43) 0 rfl rfl dX1_start_43 ?_
    refine hf_iconst (pc := 44) dX1_start_44 ?_
    refine hf_putf (pc := 45) fl_X1_25 trivial dX1_start_45 ?_
    refine hf_ald_n (pc := 48) 0 rfl rfl dX1_start_48 ?_
    refine hf_iconst (pc := 49) dX1_start_49 ?_
    refine hf_putf (pc := 50) fl_X1_28 trivial dX1_start_50 ?_
    refine hf_ald_n (pc := 53) 0 rfl rfl dX1_start_53 ?_
    refine hf_iconst (pc := 54) dX1_start_54 ?_
    refine hf_putf (pc := 55) fl_X1_31 trivial dX1_start_55 ?_
    exact hf_Jret (pc := 58) dX1_start_58 (fun _ => rfl)
  · refine hf_ald_n (pc := 7) 0 rfl rfl dX1_start_7 ?_
    refine hf_getf (pc := 8) fl_X1_9 dX1_start_8 (fun v8 => ?_)
    refine hf_ild_n (pc := 11) 3 rfl rfl dX1_start_11 ?_
    refine hf_ald_n (pc := 12) 1 rfl rfl dX1_start_12 ?_
    refine hf_getf (pc := 13) fl_X1_55 dX1_start_13 (fun v13 => ?_)
    refine hf_ild_n (pc := 16) 3 rfl rfl dX1_start_16 ?_
    refine hf_iald (pc := 17) dX1_start_17 (fun v17 => ?_)
    refine hf_iast (pc := 18) dX1_start_18 ?_
    refine hf_iincB (pc := 19) (fun y => [(3, 0, y), (0, 2, x0), (1, 2, x1), (2, 0, x2)]) (q := 3) rfl (by decide) (fun _ => rfl) dX1_start_19 (fun x3_19 => ?_)
    refine hf_goto (pc := 22) 2 dX1_start_22 rfl ?_
    exact hf_sub [1, 2, 3, 0] rfl (hrec_2 x3_19)
set_option maxRecDepth 20000 in
theorem j_X1_start_2 (x0 x1 x2 x3 : Int) : hf_J M_X1_start 2 [(0, 2, x0), (1, 2, x1), (2, 0, x2), (3, 0, x3)] [] (f_X1_start_2 x0 x1 x2 x3) :=
  hf_Jfx (L := fun s => [(0, 2, x0), (1, 2, x1), (2, 0, x2), (3, 0, s)]) (fun rec hrec s => jb_X1_start_2 x0 x1 x2 rec hrec s) hf_N x3
set_option maxRecDepth 20000 in
theorem c_X1_start (x0 x1 x2 : Int) : hf_Met M_X1_start [2, 2, 0] [x0, x1, x2] (f_X1_start x0 x1 x2) := by
  refine hf_met rfl (by decide) (by decide) (by decide) ?_
  show hf_J M_X1_start 0 [(0, 2, x0), (1, 2, x1), (2, 0, x2)] [] _
  refine hf_iconst (pc := 0) dX1_start_0 ?_
  refine hf_ist_n (pc := 1) (lv' := [(3, 0, 0), (0, 2, x0), (1, 2, x1), (2, 0, x2)]) rfl (by decide) rfl dX1_start_1 ?_
  exact hf_sub [1, 2, 3, 0] rfl (j_X1_start_2 x0 x1 x2 0)
/-! Plan.conditionFrom(I)I -/
def M_X4_conditionFrom : hf_D := (yX4_conditionFrom, cX4_conditionFrom, 2, some .int, 0, 0)
def f_X4_conditionFrom (x0 x1 : Int) : hf_M Int :=
  hf_cz x1 (x1 ≤ 0) (hf_ret 0) (hf_bd (hf_gf 4 4 x0) (fun v5 => hf_bd (hf_al 20 v5 (x1 - 1)) (fun v11 => hf_ret v11)))
theorem cal_X4_conditionFrom : hf_cv M_X4_conditionFrom 4 1 := ⟨⟨ii_X4, kc_X4_conditionFrom, by decide, by decide, by decide +kernel⟩, ki_X4_conditionFrom, kv_X4_conditionFrom, _, rfl, rfl⟩
set_option maxRecDepth 20000 in
theorem c_X4_conditionFrom (x0 x1 : Int) : hf_Met M_X4_conditionFrom [2, 0] [x0, x1] (f_X4_conditionFrom x0 x1) := by
  refine hf_met rfl (by decide) (by decide) (by decide) ?_
  show hf_J M_X4_conditionFrom 0 [(0, 2, x0), (1, 0, x1)] [] _
  refine hf_ild_n (pc := 0) 1 rfl rfl dX4_conditionFrom_0 ?_
  refine hf_if_le (pc := 1) 15 dX4_conditionFrom_1 rfl ?_ ?_
  · refine hf_iconst (pc := 15) dX4_conditionFrom_15 ?_
    exact hf_Jret (pc := 16) dX4_conditionFrom_16 (fun _ => rfl)
  · refine hf_ald_n (pc := 4) 0 rfl rfl dX4_conditionFrom_4 ?_
    refine hf_getf (pc := 5) fl_X4_23 dX4_conditionFrom_5 (fun v5 => ?_)
    refine hf_ild_n (pc := 8) 1 rfl rfl dX4_conditionFrom_8 ?_
    refine hf_iconst (pc := 9) dX4_conditionFrom_9 ?_
    refine hf_isub (pc := 10) dX4_conditionFrom_10 ?_
    refine hf_iald (pc := 11) dX4_conditionFrom_11 (fun v11 => ?_)
    refine hf_goto (pc := 12) 16 dX4_conditionFrom_12 rfl ?_
    exact hf_Jret (pc := 16) dX4_conditionFrom_16 (fun _ => rfl)
/-! Plan.hasCondition(I)Z -/
def M_X4_hasCondition : hf_D := (yX4_hasCondition, cX4_hasCondition, 2, some .boolean, 1, 21)
def f_X4_hasCondition (x0 x1 : Int) : hf_M Int :=
  hf_bd (hf_gf 4 3 x0) (fun v1 => hf_bd (hf_al 20 v1 x1) (fun v5 => hf_bd (hf_ob 4 x0 (f_X4_conditionFrom x0 x1)) (fun v8 => hf_ck (hf_inI v5 ∧ hf_inI v8) (hf_bd (hf_ret (if v5 ≤ v8 then 0 else 1)) (fun w19 => hf_ck (w19 = 0 ∨ w19 = 1) (hf_ret w19))))))
theorem cal_X4_hasCondition : hf_cv M_X4_hasCondition 4 1 := ⟨⟨ii_X4, kc_X4_hasCondition, by decide, by decide, by decide +kernel⟩, ki_X4_hasCondition, kv_X4_hasCondition, _, rfl, rfl⟩
set_option maxRecDepth 20000 in
theorem c_X4_hasCondition (x0 x1 : Int) : hf_Met M_X4_hasCondition [2, 0] [x0, x1] (f_X4_hasCondition x0 x1) := by
  refine hf_met rfl (by decide) (by decide) (by decide) ?_
  show hf_J M_X4_hasCondition 0 [(0, 2, x0), (1, 0, x1)] [] _
  refine hf_ald_n (pc := 0) 0 rfl rfl dX4_hasCondition_0 ?_
  refine hf_getf (pc := 1) fl_X4_20 dX4_hasCondition_1 (fun v1 => ?_)
  refine hf_ild_n (pc := 4) 1 rfl rfl dX4_hasCondition_4 ?_
  refine hf_iald (pc := 5) dX4_hasCondition_5 (fun v5 => ?_)
  refine hf_ald_n (pc := 6) 0 rfl rfl dX4_hasCondition_6 ?_
  refine hf_ild_n (pc := 7) 1 rfl rfl dX4_hasCondition_7 ?_
  refine hf_cV (pc := 8) (N := M_X4_conditionFrom) (ts := [0]) (vs := [x1]) (st := [(0, v5)]) (fun r => [(0, r), (0, v5)]) (c_X4_conditionFrom x0 x1) cal_X4_conditionFrom ml_X4_29 ⟨hf_le rfl, hf_le rfl⟩ (hf_le rfl) ⟨rfl, rfl⟩ rfl dX4_hasCondition_8 (fun _ => rfl) (fun v8 => ?_)
  refine hf_Jdib (pc := 11) (pcM := 19) (t := 0) (stM := []) (fun w19 => ?_) (fun a1 a2 => ?_)
  · refine hf_Jck (fun hz => ?_)
    exact hf_Jret (pc := 19) ⟨dX4_hasCondition_19, hz⟩ (fun _ => rfl)
  · refine hf_icmp_le (pc := 11) 18 dX4_hasCondition_11 rfl ?_ ?_
    · refine hf_iconst (pc := 18) dX4_hasCondition_18 ?_
      exact a1
    · refine hf_iconst (pc := 14) dX4_hasCondition_14 ?_
      refine hf_goto (pc := 15) 19 dX4_hasCondition_15 rfl ?_
      exact a2
/-! Course.lastStep()I -/
def M_X1_lastStep : hf_D := (yX1_lastStep, cX1_lastStep, 1, some .int, 0, 0)
def f_X1_lastStep (x0 : Int) : hf_M Int :=
  hf_bd (hf_gf 1 11 x0) (fun v1 => hf_cz v1 (v1 ≤ 0) (hf_ret 0) (hf_bd (hf_gf 1 2 x0) (fun v8 => hf_bd (hf_gf 1 11 x0) (fun v12 => hf_bd (hf_al 20 v8 (v12 - 1)) (fun v17 => hf_ret v17)))))
theorem cal_X1_lastStep : hf_cv M_X1_lastStep 1 0 := ⟨⟨ii_X1, kc_X1_lastStep, by decide, by decide, by decide +kernel⟩, ki_X1_lastStep, kv_X1_lastStep, _, rfl, rfl⟩
set_option maxRecDepth 20000 in
theorem c_X1_lastStep (x0 : Int) : hf_Met M_X1_lastStep [2] [x0] (f_X1_lastStep x0) := by
  refine hf_met rfl (by decide) (by decide) (by decide) ?_
  show hf_J M_X1_lastStep 0 [(0, 2, x0)] [] _
  refine hf_ald_n (pc := 0) 0 rfl rfl dX1_lastStep_0 ?_
  refine hf_getf (pc := 1) fl_X1_25 dX1_lastStep_1 (fun v1 => ?_)
  refine hf_if_le (pc := 4) 21 dX1_lastStep_4 rfl ?_ ?_
  · refine hf_iconst (pc := 21) dX1_lastStep_21 ?_
    exact hf_Jret (pc := 22) dX1_lastStep_22 (fun _ => rfl)
  · refine hf_ald_n (pc := 7) 0 rfl rfl dX1_lastStep_7 ?_
    refine hf_getf (pc := 8) fl_X1_40 dX1_lastStep_8 (fun v8 => ?_)
    refine hf_ald_n (pc := 11) 0 rfl rfl dX1_lastStep_11 ?_
    refine hf_getf (pc := 12) fl_X1_25 dX1_lastStep_12 (fun v12 => ?_)
    refine hf_iconst (pc := 15) dX1_lastStep_15 ?_
    refine hf_isub (pc := 16) dX1_lastStep_16 ?_
    refine hf_iald (pc := 17) dX1_lastStep_17 (fun v17 => ?_)
    refine hf_goto (pc := 18) 22 dX1_lastStep_18 rfl ?_
    exact hf_Jret (pc := 22) dX1_lastStep_22 (fun _ => rfl)
/-! Course.lastBroke()I -/
def M_X1_lastBroke : hf_D := (yX1_lastBroke, cX1_lastBroke, 1, some .int, 0, 0)
def f_X1_lastBroke (x0 : Int) : hf_M Int :=
  hf_bd (hf_gf 1 11 x0) (fun v1 => hf_cz v1 (v1 ≤ 0) (hf_ret 0) (hf_bd (hf_gf 1 3 x0) (fun v8 => hf_bd (hf_gf 1 11 x0) (fun v12 => hf_bd (hf_al 20 v8 (v12 - 1)) (fun v17 => hf_ret v17)))))
theorem cal_X1_lastBroke : hf_cv M_X1_lastBroke 1 0 := ⟨⟨ii_X1, kc_X1_lastBroke, by decide, by decide, by decide +kernel⟩, ki_X1_lastBroke, kv_X1_lastBroke, _, rfl, rfl⟩
set_option maxRecDepth 20000 in
theorem c_X1_lastBroke (x0 : Int) : hf_Met M_X1_lastBroke [2] [x0] (f_X1_lastBroke x0) := by
  refine hf_met rfl (by decide) (by decide) (by decide) ?_
  show hf_J M_X1_lastBroke 0 [(0, 2, x0)] [] _
  refine hf_ald_n (pc := 0) 0 rfl rfl dX1_lastBroke_0 ?_
  refine hf_getf (pc := 1) fl_X1_25 dX1_lastBroke_1 (fun v1 => ?_)
  refine hf_if_le (pc := 4) 21 dX1_lastBroke_4 rfl ?_ ?_
  · refine hf_iconst (pc := 21) dX1_lastBroke_21 ?_
    exact hf_Jret (pc := 22) dX1_lastBroke_22 (fun _ => rfl)
  · refine hf_ald_n (pc := 7) 0 rfl rfl dX1_lastBroke_7 ?_
    refine hf_getf (pc := 8) fl_X1_43 dX1_lastBroke_8 (fun v8 => ?_)
    refine hf_ald_n (pc := 11) 0 rfl rfl dX1_lastBroke_11 ?_
    refine hf_getf (pc := 12) fl_X1_25 dX1_lastBroke_12 (fun v12 => ?_)
    refine hf_iconst (pc := 15) dX1_lastBroke_15 ?_
    refine hf_isub (pc := 16) dX1_lastBroke_16 ?_
    refine hf_iald (pc := 17) dX1_lastBroke_17 (fun v17 => ?_)
    refine hf_goto (pc := 18) 22 dX1_lastBroke_18 rfl ?_
    exact hf_Jret (pc := 22) dX1_lastBroke_22 (fun _ => rfl)
/-! Course.canFall(LHighFall$Stair;II)Z -/
def M_X1_canFall : hf_D := (yX1_canFall, cX1_canFall, 4, some .boolean, 1, 21)
def f_X1_canFall (x0 x1 x2 x3 : Int) : hf_M Int :=
  hf_bd (hf_ob 8 x1 (f_X8_hasKind x1 x2)) (fun v2 => hf_cz v2 (v2 = 0) (hf_ret 0) (hf_bd (hf_ob 8 x1 (f_X8_hasStep x1 x3)) (fun v10 => hf_cz v10 (v10 = 0) (hf_ret 0) (hf_bd (hf_gf 1 7 x0) (fun v17 => hf_bd (hf_al 20 v17 x2) (fun v21 => hf_cz v21 (v21 ≤ 0) (hf_ret 0) (hf_bd (hf_gf 1 11 x0) (fun v26 => hf_bd (hf_gf 1 0 x0) (fun v30 => hf_cb v26 v30 (v30 ≤ v26) (hf_ret 0) (hf_ret 1))))))))))
theorem cal_X1_canFall : hf_cv M_X1_canFall 1 3 := ⟨⟨ii_X1, kc_X1_canFall, by decide, by decide, by decide +kernel⟩, ki_X1_canFall, kv_X1_canFall, _, rfl, rfl⟩
set_option maxRecDepth 20000 in
theorem c_X1_canFall (x0 x1 x2 x3 : Int) : hf_Met M_X1_canFall [2, 2, 0, 0] [x0, x1, x2, x3] (f_X1_canFall x0 x1 x2 x3) := by
  refine hf_met rfl (by decide) (by decide) (by decide) ?_
  show hf_J M_X1_canFall 0 [(0, 2, x0), (1, 2, x1), (2, 0, x2), (3, 0, x3)] [] _
  refine hf_ald_n (pc := 0) 1 rfl rfl dX1_canFall_0 ?_
  refine hf_ild_n (pc := 1) 2 rfl rfl dX1_canFall_1 ?_
  refine hf_cV (pc := 2) (N := M_X8_hasKind) (ts := [0]) (vs := [x2]) (st := []) (fun r => [(0, r)]) (c_X8_hasKind x1 x2) cal_X8_hasKind ml_X1_62 ⟨hf_le rfl, hf_le rfl⟩ (hf_le rfl) ⟨rfl, rfl⟩ rfl dX1_canFall_2 (fun _ => rfl) (fun v2 => ?_)
  refine hf_if_eq (pc := 5) 40 dX1_canFall_5 rfl ?_ ?_
  · refine hf_iconst (pc := 40) dX1_canFall_40 ?_
    exact hf_Jret (pc := 41) (r := 0) ⟨dX1_canFall_41, Or.inl rfl⟩ (fun _ => rfl)
  · refine hf_ald_n (pc := 8) 1 rfl rfl dX1_canFall_8 ?_
    refine hf_ild_n (pc := 9) 3 rfl rfl dX1_canFall_9 ?_
    refine hf_cV (pc := 10) (N := M_X8_hasStep) (ts := [0]) (vs := [x3]) (st := []) (fun r => [(0, r)]) (c_X8_hasStep x1 x3) cal_X8_hasStep ml_X1_66 ⟨hf_le rfl, hf_le rfl⟩ (hf_le rfl) ⟨rfl, rfl⟩ rfl dX1_canFall_10 (fun _ => rfl) (fun v10 => ?_)
    refine hf_if_eq (pc := 13) 40 dX1_canFall_13 rfl ?_ ?_
    · refine hf_iconst (pc := 40) dX1_canFall_40 ?_
      exact hf_Jret (pc := 41) (r := 0) ⟨dX1_canFall_41, Or.inl rfl⟩ (fun _ => rfl)
    · refine hf_ald_n (pc := 16) 0 rfl rfl dX1_canFall_16 ?_
      refine hf_getf (pc := 17) fl_X1_9 dX1_canFall_17 (fun v17 => ?_)
      refine hf_ild_n (pc := 20) 2 rfl rfl dX1_canFall_20 ?_
      refine hf_iald (pc := 21) dX1_canFall_21 (fun v21 => ?_)
      refine hf_if_le (pc := 22) 40 dX1_canFall_22 rfl ?_ ?_
      · refine hf_iconst (pc := 40) dX1_canFall_40 ?_
        exact hf_Jret (pc := 41) (r := 0) ⟨dX1_canFall_41, Or.inl rfl⟩ (fun _ => rfl)
      · refine hf_ald_n (pc := 25) 0 rfl rfl dX1_canFall_25 ?_
        refine hf_getf (pc := 26) fl_X1_25 dX1_canFall_26 (fun v26 => ?_)
        refine hf_ald_n (pc := 29) 0 rfl rfl dX1_canFall_29 ?_
        refine hf_getf (pc := 30) fl_X1_34 dX1_canFall_30 (fun v30 => ?_)
        refine hf_icmp_ge (pc := 33) 40 dX1_canFall_33 rfl ?_ ?_
        · refine hf_iconst (pc := 40) dX1_canFall_40 ?_
          exact hf_Jret (pc := 41) (r := 0) ⟨dX1_canFall_41, Or.inl rfl⟩ (fun _ => rfl)
        · refine hf_iconst (pc := 36) dX1_canFall_36 ?_
          refine hf_goto (pc := 37) 41 dX1_canFall_37 rfl ?_
          exact hf_Jret (pc := 41) (r := 1) ⟨dX1_canFall_41, Or.inr rfl⟩ (fun _ => rfl)
/-! Course.letFall(LHighFall$Stair;II)Z -/
def M_X1_letFall : hf_D := (yX1_letFall, cX1_letFall, 6, some .boolean, 1, 24)
def f_X1_letFall_166 (x0 x1 x2 x3 x4 : Int) : hf_M Int :=
  hf_bd (hf_gf 1 13 x0) (fun v168 => hf_bd (hf_ob 8 x1 (f_X8_costOf x1 x2 x3 x4)) (fun v176 => hf_bd (hf_pf 1 13 x0 (v168 + v176)) (fun _ => hf_ck (x4 = 0 ∨ x4 = 1) (hf_ret x4))))
def f_X1_letFall (x0 x1 x2 x3 : Int) : hf_M Int :=
  hf_bd (hf_gf 1 8 x0) (fun v4 => hf_bd (hf_ob 8 x1 (f_X8_breaks x1 x2 x3 v4)) (fun v7 => hf_bd (hf_gf 1 1 x0) (fun v13 => hf_bd (hf_gf 1 11 x0) (fun v17 => hf_bd (hf_as 20 v13 v17 x2) (fun _ => hf_bd (hf_gf 1 2 x0) (fun v23 => hf_bd (hf_gf 1 11 x0) (fun v27 => hf_bd (hf_as 20 v23 v27 x3) (fun _ => hf_bd (hf_gf 1 3 x0) (fun v33 => hf_bd (hf_gf 1 11 x0) (fun v37 => hf_ck (hf_inI v7) (hf_bd (hf_ret (if v7 = 0 then 0 else 1)) (fun w50 => hf_bd (hf_as 20 v33 v37 w50) (fun _ => hf_bd (hf_gf 1 4 x0) (fun v52 => hf_bd (hf_gf 1 11 x0) (fun v56 => hf_bd (hf_gf 1 9 x0) (fun v60 => hf_bd (hf_as 20 v52 v56 v60) (fun _ => hf_bd (hf_gf 1 5 x0) (fun v65 => hf_bd (hf_gf 1 11 x0) (fun v69 => hf_bd (hf_gf 1 10 x0) (fun v73 => hf_bd (hf_as 20 v65 v69 v73) (fun _ => hf_bd (hf_gf 1 6 x0) (fun v78 => hf_bd (hf_gf 1 11 x0) (fun v82 => hf_bd (hf_gf 1 13 x0) (fun v86 => hf_bd (hf_as 20 v78 v82 v86) (fun _ => hf_bd (hf_gf 1 11 x0) (fun v92 => hf_bd (hf_pf 1 11 x0 (v92 + 1)) (fun _ => hf_bd (hf_gf 8 1 x1) (fun v102 => hf_bd (hf_al 20 v102 x2) (fun v106 => hf_bd (hf_ret (x3 - v106)) (fun x5_108 => hf_cz v7 (v7 = 0) (hf_bd (hf_gf 1 9 x0) (fun v155 => hf_ck (hf_inI v155 ∧ hf_inI x5_108) (hf_bd (hf_ret (max v155 x5_108)) (fun v160 => hf_bd (hf_pf 1 9 x0 v160) (fun _ => f_X1_letFall_166 x0 x1 x2 x3 v7))))) (hf_bd (hf_gf 1 10 x0) (fun v117 => hf_ck (hf_inI v117 ∧ hf_inI (x5_108 - 1)) (hf_bd (hf_ret (min v117 (x5_108 - 1))) (fun v124 => hf_bd (hf_pf 1 10 x0 v124) (fun _ => hf_bd (hf_gf 1 7 x0) (fun v131 => hf_bd (hf_al 20 v131 x2) (fun v136 => hf_bd (hf_as 20 v131 x2 (v136 - 1)) (fun _ => hf_bd (hf_gf 1 12 x0) (fun v142 => hf_bd (hf_pf 1 12 x0 (v142 + 1)) (fun _ => f_X1_letFall_166 x0 x1 x2 x3 v7))))))))))))))))))))))))))))))))))))))))
theorem cal_X1_letFall : hf_cv M_X1_letFall 1 3 := ⟨⟨ii_X1, kc_X1_letFall, by decide, by decide, by decide +kernel⟩, ki_X1_letFall, kv_X1_letFall, _, rfl, rfl⟩
set_option maxRecDepth 20000 in
theorem j_X1_letFall_166 (x0 x1 x2 x3 x4 : Int) : hf_J M_X1_letFall 166 [(0, 2, x0), (1, 2, x1), (2, 0, x2), (3, 0, x3), (4, 0, x4)] [] (f_X1_letFall_166 x0 x1 x2 x3 x4) := by
  refine hf_ald_n (pc := 166) 0 rfl rfl dX1_letFall_166 ?_
  refine hf_dup (pc := 167) (by decide) dX1_letFall_167 ?_
  refine hf_getf (pc := 168) fl_X1_31 dX1_letFall_168 (fun v168 => ?_)
  refine hf_ald_n (pc := 171) 1 rfl rfl dX1_letFall_171 ?_
  refine hf_ild_n (pc := 172) 2 rfl rfl dX1_letFall_172 ?_
  refine hf_ild_n (pc := 173) 3 rfl rfl dX1_letFall_173 ?_
  refine hf_ild (pc := 174) 4 rfl dX1_letFall_174 ?_
  refine hf_cV (pc := 176) (N := M_X8_costOf) (ts := [0, 0, 0]) (vs := [x2, x3, x4]) (st := [(0, v168), (2, x0)]) (fun r => [(0, r), (0, v168), (2, x0)]) (c_X8_costOf x1 x2 x3 x4) cal_X8_costOf ml_X1_85 ⟨hf_le rfl, hf_le rfl⟩ (hf_le rfl) ⟨rfl, rfl⟩ rfl dX1_letFall_176 (fun _ => rfl) (fun v176 => ?_)
  refine hf_iadd (pc := 179) dX1_letFall_179 ?_
  refine hf_putf (pc := 180) fl_X1_31 trivial dX1_letFall_180 ?_
  refine hf_ild (pc := 183) 4 rfl dX1_letFall_183 ?_
  refine hf_Jck (fun hz => ?_)
  exact hf_Jret (pc := 185) ⟨dX1_letFall_185, hz⟩ (fun _ => rfl)
set_option maxRecDepth 20000 in
theorem c_X1_letFall (x0 x1 x2 x3 : Int) : hf_Met M_X1_letFall [2, 2, 0, 0] [x0, x1, x2, x3] (f_X1_letFall x0 x1 x2 x3) := by
  refine hf_met rfl (by decide) (by decide) (by decide) ?_
  show hf_J M_X1_letFall 0 [(0, 2, x0), (1, 2, x1), (2, 0, x2), (3, 0, x3)] [] _
  refine hf_ald_n (pc := 0) 1 rfl rfl dX1_letFall_0 ?_
  refine hf_ild_n (pc := 1) 2 rfl rfl dX1_letFall_1 ?_
  refine hf_ild_n (pc := 2) 3 rfl rfl dX1_letFall_2 ?_
  refine hf_ald_n (pc := 3) 0 rfl rfl dX1_letFall_3 ?_
  refine hf_getf (pc := 4) fl_X1_15 dX1_letFall_4 (fun v4 => ?_)
  refine hf_cV (pc := 7) (N := M_X8_breaks) (ts := [0, 0, 0]) (vs := [x2, x3, v4]) (st := []) (fun r => [(0, r)]) (c_X8_breaks x1 x2 x3 v4) cal_X8_breaks ml_X1_69 ⟨hf_le rfl, hf_le rfl⟩ (hf_le rfl) ⟨rfl, rfl⟩ rfl dX1_letFall_7 (fun _ => rfl) (fun v7 => ?_)
  refine hf_ist (pc := 10) (lv' := [(4, 0, v7), (0, 2, x0), (1, 2, x1), (2, 0, x2), (3, 0, x3)]) (by decide) rfl dX1_letFall_10 ?_
  refine hf_ald_n (pc := 12) 1 rfl rfl dX1_letFall_12 ?_
  refine hf_getf (pc := 13) fl_X1_37 dX1_letFall_13 (fun v13 => ?_)
  refine hf_ald_n (pc := 16) 1 rfl rfl dX1_letFall_16 ?_
  refine hf_getf (pc := 17) fl_X1_25 dX1_letFall_17 (fun v17 => ?_)
  refine hf_ild_n (pc := 20) 3 rfl rfl dX1_letFall_20 ?_
  refine hf_iast (pc := 21) dX1_letFall_21 ?_
  refine hf_ald_n (pc := 22) 1 rfl rfl dX1_letFall_22 ?_
  refine hf_getf (pc := 23) fl_X1_40 dX1_letFall_23 (fun v23 => ?_)
  refine hf_ald_n (pc := 26) 1 rfl rfl dX1_letFall_26 ?_
  refine hf_getf (pc := 27) fl_X1_25 dX1_letFall_27 (fun v27 => ?_)
  refine hf_ild_n (pc := 30) 4 rfl rfl dX1_letFall_30 ?_
  refine hf_iast (pc := 31) dX1_letFall_31 ?_
  refine hf_ald_n (pc := 32) 1 rfl rfl dX1_letFall_32 ?_
  refine hf_getf (pc := 33) fl_X1_43 dX1_letFall_33 (fun v33 => ?_)
  refine hf_ald_n (pc := 36) 1 rfl rfl dX1_letFall_36 ?_
  refine hf_getf (pc := 37) fl_X1_25 dX1_letFall_37 (fun v37 => ?_)
  refine hf_ild (pc := 40) 0 rfl dX1_letFall_40 ?_
  refine hf_Jdiz (pc := 42) (pcM := 50) (t := 0) (stM := [(0, v37), (2, v33)]) (fun w50 => ?_) (fun a1 a2 => ?_)
  · refine hf_iast (pc := 50) dX1_letFall_50 ?_
    refine hf_ald_n (pc := 51) 1 rfl rfl dX1_letFall_51 ?_
    refine hf_getf (pc := 52) fl_X1_46 dX1_letFall_52 (fun v52 => ?_)
    refine hf_ald_n (pc := 55) 1 rfl rfl dX1_letFall_55 ?_
    refine hf_getf (pc := 56) fl_X1_25 dX1_letFall_56 (fun v56 => ?_)
    refine hf_ald_n (pc := 59) 1 rfl rfl dX1_letFall_59 ?_
    refine hf_getf (pc := 60) fl_X1_19 dX1_letFall_60 (fun v60 => ?_)
    refine hf_iast (pc := 63) dX1_letFall_63 ?_
    refine hf_ald_n (pc := 64) 1 rfl rfl dX1_letFall_64 ?_
    refine hf_getf (pc := 65) fl_X1_49 dX1_letFall_65 (fun v65 => ?_)
    refine hf_ald_n (pc := 68) 1 rfl rfl dX1_letFall_68 ?_
    refine hf_getf (pc := 69) fl_X1_25 dX1_letFall_69 (fun v69 => ?_)
    refine hf_ald_n (pc := 72) 1 rfl rfl dX1_letFall_72 ?_
    refine hf_getf (pc := 73) fl_X1_22 dX1_letFall_73 (fun v73 => ?_)
    refine hf_iast (pc := 76) dX1_letFall_76 ?_
    refine hf_ald_n (pc := 77) 1 rfl rfl dX1_letFall_77 ?_
    refine hf_getf (pc := 78) fl_X1_52 dX1_letFall_78 (fun v78 => ?_)
    refine hf_ald_n (pc := 81) 1 rfl rfl dX1_letFall_81 ?_
    refine hf_getf (pc := 82) fl_X1_25 dX1_letFall_82 (fun v82 => ?_)
    refine hf_ald_n (pc := 85) 1 rfl rfl dX1_letFall_85 ?_
    refine hf_getf (pc := 86) fl_X1_31 dX1_letFall_86 (fun v86 => ?_)
    refine hf_iast (pc := 89) dX1_letFall_89 ?_
    refine hf_ald_n (pc := 90) 1 rfl rfl dX1_letFall_90 ?_
    refine hf_dup (pc := 91) (by decide) dX1_letFall_91 ?_
    refine hf_getf (pc := 92) fl_X1_25 dX1_letFall_92 (fun v92 => ?_)
    refine hf_iconst (pc := 95) dX1_letFall_95 ?_
    refine hf_iadd (pc := 96) dX1_letFall_96 ?_
    refine hf_putf (pc := 97) fl_X1_25 trivial dX1_letFall_97 ?_
    refine hf_ild_n (pc := 100) 4 rfl rfl dX1_letFall_100 ?_
    refine hf_ald_n (pc := 101) 2 rfl rfl dX1_letFall_101 ?_
    refine hf_getf (pc := 102) fl_X1_73 dX1_letFall_102 (fun v102 => ?_)
    refine hf_ild_n (pc := 105) 3 rfl rfl dX1_letFall_105 ?_
    refine hf_iald (pc := 106) dX1_letFall_106 (fun v106 => ?_)
    refine hf_isub (pc := 107) dX1_letFall_107 ?_
    refine hf_istB (pc := 108) (fun y => [(5, 0, y), (4, 0, v7), (0, 2, x0), (1, 2, x1), (2, 0, x2), (3, 0, x3)]) (by decide) (fun _ => rfl) dX1_letFall_108 (fun x5_108 => ?_)
    refine hf_ild (pc := 110) 1 rfl dX1_letFall_110 ?_
    refine hf_if_eq (pc := 112) 153 dX1_letFall_112 rfl ?_ ?_
    · refine hf_ald_n (pc := 153) 2 rfl rfl dX1_letFall_153 ?_
      refine hf_ald_n (pc := 154) 2 rfl rfl dX1_letFall_154 ?_
      refine hf_getf (pc := 155) fl_X1_19 dX1_letFall_155 (fun v155 => ?_)
      refine hf_ild (pc := 158) 0 rfl dX1_letFall_158 ?_
      refine hf_mmax (pc := 160) ml_X1_82 ⟨hf_le rfl, hf_le rfl⟩ dX1_letFall_160 (fun v160 => ?_)
      refine hf_putf (pc := 163) fl_X1_19 trivial dX1_letFall_163 ?_
      exact hf_sub [2, 3, 4, 5, 1] rfl (j_X1_letFall_166 x0 x1 x2 x3 v7)
    · refine hf_ald_n (pc := 115) 2 rfl rfl dX1_letFall_115 ?_
      refine hf_ald_n (pc := 116) 2 rfl rfl dX1_letFall_116 ?_
      refine hf_getf (pc := 117) fl_X1_22 dX1_letFall_117 (fun v117 => ?_)
      refine hf_ild (pc := 120) 0 rfl dX1_letFall_120 ?_
      refine hf_iconst (pc := 122) dX1_letFall_122 ?_
      refine hf_isub (pc := 123) dX1_letFall_123 ?_
      refine hf_mmin (pc := 124) ml_X1_76 ⟨hf_le rfl, hf_le rfl⟩ dX1_letFall_124 (fun v124 => ?_)
      refine hf_putf (pc := 127) fl_X1_22 trivial dX1_letFall_127 ?_
      refine hf_ald_n (pc := 130) 2 rfl rfl dX1_letFall_130 ?_
      refine hf_getf (pc := 131) fl_X1_9 dX1_letFall_131 (fun v131 => ?_)
      refine hf_ild_n (pc := 134) 4 rfl rfl dX1_letFall_134 ?_
      refine hf_dup2 (pc := 135) (by decide) (by decide) dX1_letFall_135 ?_
      refine hf_iald (pc := 136) dX1_letFall_136 (fun v136 => ?_)
      refine hf_iconst (pc := 137) dX1_letFall_137 ?_
      refine hf_isub (pc := 138) dX1_letFall_138 ?_
      refine hf_iast (pc := 139) dX1_letFall_139 ?_
      refine hf_ald_n (pc := 140) 2 rfl rfl dX1_letFall_140 ?_
      refine hf_dup (pc := 141) (by decide) dX1_letFall_141 ?_
      refine hf_getf (pc := 142) fl_X1_28 dX1_letFall_142 (fun v142 => ?_)
      refine hf_iconst (pc := 145) dX1_letFall_145 ?_
      refine hf_iadd (pc := 146) dX1_letFall_146 ?_
      refine hf_putf (pc := 147) fl_X1_28 trivial dX1_letFall_147 ?_
      refine hf_goto (pc := 150) 166 dX1_letFall_150 rfl ?_
      exact hf_sub [2, 3, 4, 5, 1] rfl (j_X1_letFall_166 x0 x1 x2 x3 v7)
  · refine hf_if_eq (pc := 42) 49 dX1_letFall_42 rfl ?_ ?_
    · refine hf_iconst (pc := 49) dX1_letFall_49 ?_
      exact a1
    · refine hf_iconst (pc := 45) dX1_letFall_45 ?_
      refine hf_goto (pc := 46) 50 dX1_letFall_46 rfl ?_
      exact a2
/-! Course.recall(II)I -/
def M_X1_recall : hf_D := (yX1_recall, cX1_recall, 3, some .int, 0, 0)
def f_X1_recall (x0 x1 x2 : Int) : hf_M Int :=
  hf_cz x1 (x1 < 0) (hf_ret (-1)) (hf_bd (hf_gf 1 11 x0) (fun v6 => hf_cb x1 v6 (x1 < v6) (hf_cz x2 (¬ x2 = 0) (hf_cb x2 1 (¬ x2 = 1) (hf_bd (hf_gf 1 3 x0) (fun v42 => hf_bd (hf_al 20 v42 x1) (fun v46 => hf_ret v46))) (hf_bd (hf_gf 1 2 x0) (fun v33 => hf_bd (hf_al 20 v33 x1) (fun v37 => hf_ret v37)))) (hf_bd (hf_gf 1 1 x0) (fun v19 => hf_bd (hf_al 20 v19 x1) (fun v23 => hf_ret v23)))) (hf_ret (-1))))
theorem cal_X1_recall : hf_cv M_X1_recall 1 2 := ⟨⟨ii_X1, kc_X1_recall, by decide, by decide, by decide +kernel⟩, ki_X1_recall, kv_X1_recall, _, rfl, rfl⟩
set_option maxRecDepth 20000 in
theorem c_X1_recall (x0 x1 x2 : Int) : hf_Met M_X1_recall [2, 0, 0] [x0, x1, x2] (f_X1_recall x0 x1 x2) := by
  refine hf_met rfl (by decide) (by decide) (by decide) ?_
  show hf_J M_X1_recall 0 [(0, 2, x0), (1, 0, x1), (2, 0, x2)] [] _
  refine hf_ild_n (pc := 0) 1 rfl rfl dX1_recall_0 ?_
  refine hf_if_lt (pc := 1) 12 dX1_recall_1 rfl ?_ ?_
  · refine hf_iconst (pc := 12) dX1_recall_12 ?_
    exact hf_Jret (pc := 13) dX1_recall_13 (fun _ => rfl)
  · refine hf_ild_n (pc := 4) 1 rfl rfl dX1_recall_4 ?_
    refine hf_ald_n (pc := 5) 0 rfl rfl dX1_recall_5 ?_
    refine hf_getf (pc := 6) fl_X1_25 dX1_recall_6 (fun v6 => ?_)
    refine hf_icmp_lt (pc := 9) 14 dX1_recall_9 rfl ?_ ?_
    · refine hf_ild_n (pc := 14) 2 rfl rfl dX1_recall_14 ?_
      refine hf_if_ne (pc := 15) 27 dX1_recall_15 rfl ?_ ?_
      · refine hf_ild_n (pc := 27) 2 rfl rfl dX1_recall_27 ?_
        refine hf_iconst (pc := 28) dX1_recall_28 ?_
        refine hf_icmp_ne (pc := 29) 41 dX1_recall_29 rfl ?_ ?_
        · refine hf_ald_n (pc := 41) 0 rfl rfl dX1_recall_41 ?_
          refine hf_getf (pc := 42) fl_X1_43 dX1_recall_42 (fun v42 => ?_)
          refine hf_ild_n (pc := 45) 1 rfl rfl dX1_recall_45 ?_
          refine hf_iald (pc := 46) dX1_recall_46 (fun v46 => ?_)
          exact hf_Jret (pc := 47) dX1_recall_47 (fun _ => rfl)
        · refine hf_ald_n (pc := 32) 0 rfl rfl dX1_recall_32 ?_
          refine hf_getf (pc := 33) fl_X1_40 dX1_recall_33 (fun v33 => ?_)
          refine hf_ild_n (pc := 36) 1 rfl rfl dX1_recall_36 ?_
          refine hf_iald (pc := 37) dX1_recall_37 (fun v37 => ?_)
          refine hf_goto (pc := 38) 47 dX1_recall_38 rfl ?_
          exact hf_Jret (pc := 47) dX1_recall_47 (fun _ => rfl)
      · refine hf_ald_n (pc := 18) 0 rfl rfl dX1_recall_18 ?_
        refine hf_getf (pc := 19) fl_X1_37 dX1_recall_19 (fun v19 => ?_)
        refine hf_ild_n (pc := 22) 1 rfl rfl dX1_recall_22 ?_
        refine hf_iald (pc := 23) dX1_recall_23 (fun v23 => ?_)
        refine hf_goto (pc := 24) 47 dX1_recall_24 rfl ?_
        exact hf_Jret (pc := 47) dX1_recall_47 (fun _ => rfl)
    · refine hf_iconst (pc := 12) dX1_recall_12 ?_
      exact hf_Jret (pc := 13) dX1_recall_13 (fun _ => rfl)
/-! WeakTable.makeRoom()V -/
def M_X10_makeRoom : hf_D := (yX10_makeRoom, cX10_makeRoom, 1, none, 0, 0)
def f_X10_makeRoom (x0 : Int) : hf_M Int :=
  hf_bd (hf_gf 10 0 x0) (fun v1 => hf_bd (hf_an 20 v1) (fun v4 => hf_cz v4 (¬ v4 = 0) (hf_ret 0) (hf_bd (hf_na 20 861) (fun v12 => hf_bd (hf_pf 10 0 x0 v12) (fun _ => hf_bd (hf_na 20 861) (fun v21 => hf_bd (hf_pf 10 1 x0 v21) (fun _ => hf_bd (hf_na 20 1681) (fun v30 => hf_bd (hf_pf 10 2 x0 v30) (fun _ => hf_ret 0)))))))))
theorem cal_X10_makeRoom : hf_cv M_X10_makeRoom 10 0 := ⟨⟨ii_X10, kc_X10_makeRoom, by decide, by decide, by decide +kernel⟩, ki_X10_makeRoom, kv_X10_makeRoom, _, rfl, rfl⟩
set_option maxRecDepth 20000 in
theorem c_X10_makeRoom (x0 : Int) : hf_Met M_X10_makeRoom [2] [x0] (f_X10_makeRoom x0) := by
  refine hf_met rfl (by decide) (by decide) (by decide) ?_
  show hf_J M_X10_makeRoom 0 [(0, 2, x0)] [] _
  refine hf_ald_n (pc := 0) 0 rfl rfl dX10_makeRoom_0 ?_
  refine hf_getf (pc := 1) fl_X10_9 dX10_makeRoom_1 (fun v1 => ?_)
  refine hf_alen (pc := 4) 20 (by decide) (by decide) dX10_makeRoom_4 (fun v4 => ?_)
  refine hf_if_ne (pc := 5) 35 dX10_makeRoom_5 rfl ?_ ?_
  · exact hf_Jret (pc := 35) dX10_makeRoom_35 (fun _ => rfl)
  · refine hf_ald_n (pc := 8) 0 rfl rfl dX10_makeRoom_8 ?_
    refine hf_sipush (pc := 9) dX10_makeRoom_9 (by decide) ?_
    refine hf_newa0 (pc := 12) (tg := 20) (by decide) (by decide) rfl ac_int dX10_makeRoom_12 (fun v12 => ?_)
    refine hf_putf (pc := 14) fl_X10_9 trivial dX10_makeRoom_14 ?_
    refine hf_ald_n (pc := 17) 0 rfl rfl dX10_makeRoom_17 ?_
    refine hf_sipush (pc := 18) dX10_makeRoom_18 (by decide) ?_
    refine hf_newa0 (pc := 21) (tg := 20) (by decide) (by decide) rfl ac_int dX10_makeRoom_21 (fun v21 => ?_)
    refine hf_putf (pc := 23) fl_X10_15 trivial dX10_makeRoom_23 ?_
    refine hf_ald_n (pc := 26) 0 rfl rfl dX10_makeRoom_26 ?_
    refine hf_sipush (pc := 27) dX10_makeRoom_27 (by decide) ?_
    refine hf_newa0 (pc := 30) (tg := 20) (by decide) (by decide) rfl ac_int dX10_makeRoom_30 (fun v30 => ?_)
    refine hf_putf (pc := 32) fl_X10_18 trivial dX10_makeRoom_32 ?_
    exact hf_Jret (pc := 35) dX10_makeRoom_35 (fun _ => rfl)
/-! WeakTable.fillWithoutPieces()V -/
def M_X10_fillWithoutPieces : hf_D := (yX10_fillWithoutPieces, cX10_fillWithoutPieces, 2, none, 1, 23)
def B_X10_fillWithoutPieces_11 (x0 : Int) (rec_11 : Int → hf_M Int) (x1 : Int) : hf_M Int :=
  hf_bd (hf_gf 10 3 x0) (fun v13 => hf_cb x1 v13 (v13 < x1) (hf_ret 0) (hf_bd (hf_gf 10 0 x0) (fun v20 => hf_bd (f_X11_spanAt x1 x1) (fun v25 => hf_bd (hf_as 20 v20 v25 0) (fun _ => hf_bd (hf_ret (x1 + 1)) (fun x1_30 => rec_11 x1_30))))))
def f_X10_fillWithoutPieces_11 (x0 x1 : Int) : hf_M Int := hf_fx (fun rec s => B_X10_fillWithoutPieces_11 x0 rec s) hf_N x1
def f_X10_fillWithoutPieces (x0 : Int) : hf_M Int :=
  hf_bd (hf_gf 10 0 x0) (fun v1 => hf_bd (f_J7_fill_53178 v1 1000000000) (fun _ => f_X10_fillWithoutPieces_11 x0 0))
theorem cal_X10_fillWithoutPieces : hf_cv M_X10_fillWithoutPieces 10 0 := ⟨⟨ii_X10, kc_X10_fillWithoutPieces, by decide, by decide, by decide +kernel⟩, ki_X10_fillWithoutPieces, kv_X10_fillWithoutPieces, _, rfl, rfl⟩
set_option maxRecDepth 20000 in
theorem jb_X10_fillWithoutPieces_11 (x0 : Int) (rec_11 : Int → hf_M Int) (hrec_11 : ∀ s : Int, hf_J M_X10_fillWithoutPieces 11 [(0, 2, x0), (1, 0, s)] [] (rec_11 s)) (x1 : Int) : hf_J M_X10_fillWithoutPieces 11 [(0, 2, x0), (1, 0, x1)] [] (B_X10_fillWithoutPieces_11 x0 rec_11 x1) := by
  refine hf_ild_n (pc := 11) 1 rfl rfl dX10_fillWithoutPieces_11 ?_
  refine hf_ald_n (pc := 12) 0 rfl rfl dX10_fillWithoutPieces_12 ?_
  refine hf_getf (pc := 13) fl_X10_21 dX10_fillWithoutPieces_13 (fun v13 => ?_)
  refine hf_icmp_gt (pc := 16) 36 dX10_fillWithoutPieces_16 rfl ?_ ?_
  · exact hf_Jret (pc := 36) dX10_fillWithoutPieces_36 (fun _ => rfl)
  · refine hf_ald_n (pc := 19) 0 rfl rfl dX10_fillWithoutPieces_19 ?_
    refine hf_getf (pc := 20) fl_X10_9 dX10_fillWithoutPieces_20 (fun v20 => ?_)
    refine hf_ild_n (pc := 23) 1 rfl rfl dX10_fillWithoutPieces_23 ?_
    refine hf_ild_n (pc := 24) 1 rfl rfl dX10_fillWithoutPieces_24 ?_
    refine hf_cSN (pc := 25) (N := M_X11_spanAt) (ts := [0, 0]) (vs := [x1, x1]) (st := [(2, v20)]) (fun r => [(0, r), (2, v20)]) (c_X11_spanAt x1 x1) cal_X11_spanAt mn_X10_46 ⟨hf_le rfl, hf_le rfl⟩ (hf_le rfl) ⟨rfl, rfl⟩ rfl dX10_fillWithoutPieces_25 (fun _ => rfl) (fun v25 => ?_)
    refine hf_iconst (pc := 28) dX10_fillWithoutPieces_28 ?_
    refine hf_iast (pc := 29) dX10_fillWithoutPieces_29 ?_
    refine hf_iincB (pc := 30) (fun y => [(1, 0, y), (0, 2, x0)]) (q := 1) rfl (by decide) (fun _ => rfl) dX10_fillWithoutPieces_30 (fun x1_30 => ?_)
    refine hf_goto (pc := 33) 11 dX10_fillWithoutPieces_33 rfl ?_
    exact hf_sub [1, 0] rfl (hrec_11 x1_30)
set_option maxRecDepth 20000 in
theorem j_X10_fillWithoutPieces_11 (x0 x1 : Int) : hf_J M_X10_fillWithoutPieces 11 [(0, 2, x0), (1, 0, x1)] [] (f_X10_fillWithoutPieces_11 x0 x1) :=
  hf_Jfx (L := fun s => [(0, 2, x0), (1, 0, s)]) (fun rec hrec s => jb_X10_fillWithoutPieces_11 x0 rec hrec s) hf_N x1
set_option maxRecDepth 20000 in
theorem c_X10_fillWithoutPieces (x0 : Int) : hf_Met M_X10_fillWithoutPieces [2] [x0] (f_X10_fillWithoutPieces x0) := by
  refine hf_met rfl (by decide) (by decide) (by decide) ?_
  show hf_J M_X10_fillWithoutPieces 0 [(0, 2, x0)] [] _
  refine hf_ald_n (pc := 0) 0 rfl rfl dX10_fillWithoutPieces_0 ?_
  refine hf_getf (pc := 1) fl_X10_9 dX10_fillWithoutPieces_1 (fun v1 => ?_)
  refine hf_ldc (pc := 4) (n := 1000000000) co_X10_50 (by decide) dX10_fillWithoutPieces_4 ?_
  refine hf_cS (pc := 6) (N := M_J7_fill_53178) (ts := [2, 0]) (vs := [v1, 1000000000]) (st := []) (fun r => []) (c_J7_fill_53178 v1 1000000000) cal_J7_fill_53178 ml_X10_51 ⟨hf_le rfl, hf_le rfl⟩ (hf_le rfl) ⟨rfl, rfl⟩ rfl dX10_fillWithoutPieces_6 (fun _ => rfl) (fun _ => ?_)
  refine hf_iconst (pc := 9) dX10_fillWithoutPieces_9 ?_
  refine hf_ist_n (pc := 10) (lv' := [(1, 0, 0), (0, 2, x0)]) rfl (by decide) rfl dX10_fillWithoutPieces_10 ?_
  exact hf_sub [1, 0] rfl (j_X10_fillWithoutPieces_11 x0 0)
/-! WeakTable.fewestFrom(III)I -/
def M_X10_fewestFrom : hf_D := (yX10_fewestFrom, cX10_fewestFrom, 11, some .int, 1, 24)
def B_X10_fewestFrom_61 (x0 x1 x3 x7 : Int) (rec_61 : Int × Int → hf_M Int) (x4 x8 : Int) : hf_M Int :=
  hf_cb x8 x7 (x7 < x8) (hf_ret x4) (hf_bd (hf_gf 10 0 x0) (fun v69 => hf_bd (f_X11_spanAt x1 (x8 - 1)) (fun v77 => hf_bd (hf_al 20 v69 v77) (fun v80 => hf_cb (v80 + 1) x4 ((v80 + 1) < x4) (hf_bd (hf_gf 10 2 x0) (fun v96 => hf_bd (hf_al 20 v96 (((x8 * 41) + x3) + 1)) (fun v108 => hf_ck (hf_inI v80 ∧ hf_inI v108) (hf_bd (hf_ret (max v80 v108)) (fun v118 => hf_ck (hf_inI x4 ∧ hf_inI (1 + v118)) (hf_bd (hf_ret (min x4 (1 + v118))) (fun v122 => hf_bd (hf_ret (x8 + 1)) (fun x8_127 => rec_61 (v122, x8_127))))))))) (hf_ret x4)))))
def f_X10_fewestFrom_61 (x0 x1 x3 x4 x7 x8 : Int) : hf_M Int := hf_fx (fun rec s => B_X10_fewestFrom_61 x0 x1 x3 x7 rec s.1 s.2) hf_N (x4, x8)
def f_X10_fewestFrom (x0 x1 x2 x3 : Int) : hf_M Int :=
  hf_cb x1 x2 (¬ x1 = x2) (hf_bd (hf_gf 10 0 x0) (fun v8 => hf_bd (f_X11_spanAt x1 x2) (fun v13 => hf_bd (hf_al 20 v8 v13) (fun v16 => hf_bd (hf_gf 10 5 x0) (fun v20 => hf_bd (hf_gf 10 4 x0) (fun v26 => hf_bd (hf_ret ((v20 * x3) - v26)) (fun x5_30 => hf_ck (hf_inI (x1 + 1) ∧ hf_inI (1 + x5_30)) (hf_bd (hf_ret (max (x1 + 1) (1 + x5_30))) (fun v39 => hf_bd (hf_gf 10 3 x0) (fun v46 => hf_ck (hf_inI x2 ∧ hf_inI (v46 + x5_30)) (hf_bd (hf_ret (min x2 (v46 + x5_30))) (fun v52 => f_X10_fewestFrom_61 x0 x1 x3 v16 v52 v39)))))))))))) (hf_ret 0)
theorem cal_X10_fewestFrom : hf_cv M_X10_fewestFrom 10 3 := ⟨⟨ii_X10, kc_X10_fewestFrom, by decide, by decide, by decide +kernel⟩, ki_X10_fewestFrom, kv_X10_fewestFrom, _, rfl, rfl⟩
set_option maxRecDepth 20000 in
theorem jb_X10_fewestFrom_61 (x0 x1 x3 x7 : Int) (rec_61 : Int × Int → hf_M Int) (hrec_61 : ∀ s : Int × Int, hf_J M_X10_fewestFrom 61 [(0, 2, x0), (1, 0, x1), (3, 0, x3), (4, 0, s.1), (7, 0, x7), (8, 0, s.2)] [] (rec_61 s)) (x4 x8 : Int) : hf_J M_X10_fewestFrom 61 [(0, 2, x0), (1, 0, x1), (3, 0, x3), (4, 0, x4), (7, 0, x7), (8, 0, x8)] [] (B_X10_fewestFrom_61 x0 x1 x3 x7 rec_61 x4 x8) := by
  refine hf_ild (pc := 61) 5 rfl dX10_fewestFrom_61 ?_
  refine hf_ild (pc := 63) 4 rfl dX10_fewestFrom_63 ?_
  refine hf_icmp_gt (pc := 65) 133 dX10_fewestFrom_65 rfl ?_ ?_
  · refine hf_ild (pc := 133) 3 rfl dX10_fewestFrom_133 ?_
    exact hf_Jret (pc := 135) dX10_fewestFrom_135 (fun _ => rfl)
  · refine hf_ald_n (pc := 68) 0 rfl rfl dX10_fewestFrom_68 ?_
    refine hf_getf (pc := 69) fl_X10_9 dX10_fewestFrom_69 (fun v69 => ?_)
    refine hf_ild_n (pc := 72) 1 rfl rfl dX10_fewestFrom_72 ?_
    refine hf_ild (pc := 73) 5 rfl dX10_fewestFrom_73 ?_
    refine hf_iconst (pc := 75) dX10_fewestFrom_75 ?_
    refine hf_isub (pc := 76) dX10_fewestFrom_76 ?_
    refine hf_cSN (pc := 77) (N := M_X11_spanAt) (ts := [0, 0]) (vs := [x1, (x8 - 1)]) (st := [(2, v69)]) (fun r => [(0, r), (2, v69)]) (c_X11_spanAt x1 (x8 - 1)) cal_X11_spanAt mn_X10_46 ⟨hf_le rfl, hf_le rfl⟩ (hf_le rfl) ⟨rfl, rfl⟩ rfl dX10_fewestFrom_77 (fun _ => rfl) (fun v77 => ?_)
    refine hf_iald (pc := 80) dX10_fewestFrom_80 (fun v80 => ?_)
    refine hf_ist (pc := 81) (lv' := [(9, 0, v80), (0, 2, x0), (1, 0, x1), (3, 0, x3), (4, 0, x4), (7, 0, x7), (8, 0, x8)]) (by decide) rfl dX10_fewestFrom_81 ?_
    refine hf_ild (pc := 83) 0 rfl dX10_fewestFrom_83 ?_
    refine hf_iconst (pc := 85) dX10_fewestFrom_85 ?_
    refine hf_iadd (pc := 86) dX10_fewestFrom_86 ?_
    refine hf_ild (pc := 87) 4 rfl dX10_fewestFrom_87 ?_
    refine hf_icmp_lt (pc := 89) 95 dX10_fewestFrom_89 rfl ?_ ?_
    · refine hf_ald_n (pc := 95) 1 rfl rfl dX10_fewestFrom_95 ?_
      refine hf_getf (pc := 96) fl_X10_18 dX10_fewestFrom_96 (fun v96 => ?_)
      refine hf_ild (pc := 99) 6 rfl dX10_fewestFrom_99 ?_
      refine hf_bipush (pc := 101) dX10_fewestFrom_101 (by decide) ?_
      refine hf_imul (pc := 103) dX10_fewestFrom_103 ?_
      refine hf_ild_n (pc := 104) 3 rfl rfl dX10_fewestFrom_104 ?_
      refine hf_iadd (pc := 105) dX10_fewestFrom_105 ?_
      refine hf_iconst (pc := 106) dX10_fewestFrom_106 ?_
      refine hf_iadd (pc := 107) dX10_fewestFrom_107 ?_
      refine hf_iald (pc := 108) dX10_fewestFrom_108 (fun v108 => ?_)
      refine hf_ist (pc := 109) (lv' := [(10, 0, v108), (9, 0, v80), (0, 2, x0), (1, 0, x1), (3, 0, x3), (4, 0, x4), (7, 0, x7), (8, 0, x8)]) (by decide) rfl dX10_fewestFrom_109 ?_
      refine hf_ild (pc := 111) 5 rfl dX10_fewestFrom_111 ?_
      refine hf_iconst (pc := 113) dX10_fewestFrom_113 ?_
      refine hf_ild (pc := 114) 1 rfl dX10_fewestFrom_114 ?_
      refine hf_ild (pc := 116) 0 rfl dX10_fewestFrom_116 ?_
      refine hf_mmax (pc := 118) ml_X10_61 ⟨hf_le rfl, hf_le rfl⟩ dX10_fewestFrom_118 (fun v118 => ?_)
      refine hf_iadd (pc := 121) dX10_fewestFrom_121 ?_
      refine hf_mmin (pc := 122) ml_X10_66 ⟨hf_le rfl, hf_le rfl⟩ dX10_fewestFrom_122 (fun v122 => ?_)
      refine hf_ist (pc := 125) (lv' := [(4, 0, v122), (10, 0, v108), (9, 0, v80), (0, 2, x0), (1, 0, x1), (3, 0, x3), (7, 0, x7), (8, 0, x8)]) (by decide) rfl dX10_fewestFrom_125 ?_
      refine hf_iincB (pc := 127) (fun y => [(8, 0, y), (4, 0, v122), (10, 0, v108), (9, 0, v80), (0, 2, x0), (1, 0, x1), (3, 0, x3), (7, 0, x7)]) (q := 7) rfl (by decide) (fun _ => rfl) dX10_fewestFrom_127 (fun x8_127 => ?_)
      refine hf_goto (pc := 130) 61 dX10_fewestFrom_130 rfl ?_
      exact hf_sub [4, 5, 6, 1, 7, 0] rfl (hrec_61 (v122, x8_127))
    · refine hf_ild (pc := 92) 4 rfl dX10_fewestFrom_92 ?_
      exact hf_Jret (pc := 94) dX10_fewestFrom_94 (fun _ => rfl)
set_option maxRecDepth 20000 in
theorem j_X10_fewestFrom_61 (x0 x1 x3 x4 x7 x8 : Int) : hf_J M_X10_fewestFrom 61 [(0, 2, x0), (1, 0, x1), (3, 0, x3), (4, 0, x4), (7, 0, x7), (8, 0, x8)] [] (f_X10_fewestFrom_61 x0 x1 x3 x4 x7 x8) :=
  hf_Jfx (L := fun s => [(0, 2, x0), (1, 0, x1), (3, 0, x3), (4, 0, s.1), (7, 0, x7), (8, 0, s.2)]) (fun rec hrec s => jb_X10_fewestFrom_61 x0 x1 x3 x7 rec hrec s.1 s.2) hf_N (x4, x8)
set_option maxRecDepth 20000 in
theorem c_X10_fewestFrom (x0 x1 x2 x3 : Int) : hf_Met M_X10_fewestFrom [2, 0, 0, 0] [x0, x1, x2, x3] (f_X10_fewestFrom x0 x1 x2 x3) := by
  refine hf_met rfl (by decide) (by decide) (by decide) ?_
  show hf_J M_X10_fewestFrom 0 [(0, 2, x0), (1, 0, x1), (2, 0, x2), (3, 0, x3)] [] _
  refine hf_ild_n (pc := 0) 1 rfl rfl dX10_fewestFrom_0 ?_
  refine hf_ild_n (pc := 1) 2 rfl rfl dX10_fewestFrom_1 ?_
  refine hf_icmp_ne (pc := 2) 7 dX10_fewestFrom_2 rfl ?_ ?_
  · refine hf_ald_n (pc := 7) 0 rfl rfl dX10_fewestFrom_7 ?_
    refine hf_getf (pc := 8) fl_X10_9 dX10_fewestFrom_8 (fun v8 => ?_)
    refine hf_ild_n (pc := 11) 1 rfl rfl dX10_fewestFrom_11 ?_
    refine hf_ild_n (pc := 12) 2 rfl rfl dX10_fewestFrom_12 ?_
    refine hf_cSN (pc := 13) (N := M_X11_spanAt) (ts := [0, 0]) (vs := [x1, x2]) (st := [(2, v8)]) (fun r => [(0, r), (2, v8)]) (c_X11_spanAt x1 x2) cal_X11_spanAt mn_X10_46 ⟨hf_le rfl, hf_le rfl⟩ (hf_le rfl) ⟨rfl, rfl⟩ rfl dX10_fewestFrom_13 (fun _ => rfl) (fun v13 => ?_)
    refine hf_iald (pc := 16) dX10_fewestFrom_16 (fun v16 => ?_)
    refine hf_ist (pc := 17) (lv' := [(4, 0, v16), (0, 2, x0), (1, 0, x1), (2, 0, x2), (3, 0, x3)]) (by decide) rfl dX10_fewestFrom_17 ?_
    refine hf_ald_n (pc := 19) 1 rfl rfl dX10_fewestFrom_19 ?_
    refine hf_getf (pc := 20) fl_X10_28 dX10_fewestFrom_20 (fun v20 => ?_)
    refine hf_ild_n (pc := 23) 4 rfl rfl dX10_fewestFrom_23 ?_
    refine hf_imul (pc := 24) dX10_fewestFrom_24 ?_
    refine hf_ald_n (pc := 25) 1 rfl rfl dX10_fewestFrom_25 ?_
    refine hf_getf (pc := 26) fl_X10_25 dX10_fewestFrom_26 (fun v26 => ?_)
    refine hf_isub (pc := 29) dX10_fewestFrom_29 ?_
    refine hf_istB (pc := 30) (fun y => [(5, 0, y), (4, 0, v16), (0, 2, x0), (1, 0, x1), (2, 0, x2), (3, 0, x3)]) (by decide) (fun _ => rfl) dX10_fewestFrom_30 (fun x5_30 => ?_)
    refine hf_ild_n (pc := 32) 3 rfl rfl dX10_fewestFrom_32 ?_
    refine hf_iconst (pc := 33) dX10_fewestFrom_33 ?_
    refine hf_iadd (pc := 34) dX10_fewestFrom_34 ?_
    refine hf_iconst (pc := 35) dX10_fewestFrom_35 ?_
    refine hf_ild (pc := 36) 0 rfl dX10_fewestFrom_36 ?_
    refine hf_iadd (pc := 38) dX10_fewestFrom_38 ?_
    refine hf_mmax (pc := 39) ml_X10_61 ⟨hf_le rfl, hf_le rfl⟩ dX10_fewestFrom_39 (fun v39 => ?_)
    refine hf_ist (pc := 42) (lv' := [(6, 0, v39), (5, 0, x5_30), (4, 0, v16), (0, 2, x0), (1, 0, x1), (2, 0, x2), (3, 0, x3)]) (by decide) rfl dX10_fewestFrom_42 ?_
    refine hf_ild_n (pc := 44) 5 rfl rfl dX10_fewestFrom_44 ?_
    refine hf_ald_n (pc := 45) 3 rfl rfl dX10_fewestFrom_45 ?_
    refine hf_getf (pc := 46) fl_X10_21 dX10_fewestFrom_46 (fun v46 => ?_)
    refine hf_ild (pc := 49) 1 rfl dX10_fewestFrom_49 ?_
    refine hf_iadd (pc := 51) dX10_fewestFrom_51 ?_
    refine hf_mmin (pc := 52) ml_X10_66 ⟨hf_le rfl, hf_le rfl⟩ dX10_fewestFrom_52 (fun v52 => ?_)
    refine hf_ist (pc := 55) (lv' := [(7, 0, v52), (6, 0, v39), (5, 0, x5_30), (4, 0, v16), (0, 2, x0), (1, 0, x1), (2, 0, x2), (3, 0, x3)]) (by decide) rfl dX10_fewestFrom_55 ?_
    refine hf_ild (pc := 57) 1 rfl dX10_fewestFrom_57 ?_
    refine hf_ist (pc := 59) (lv' := [(8, 0, v39), (7, 0, v52), (6, 0, v39), (5, 0, x5_30), (4, 0, v16), (0, 2, x0), (1, 0, x1), (2, 0, x2), (3, 0, x3)]) (by decide) rfl dX10_fewestFrom_59 ?_
    exact hf_sub [5, 6, 8, 4, 1, 0] rfl (j_X10_fewestFrom_61 x0 x1 x3 v16 v52 v39)
  · refine hf_iconst (pc := 5) dX10_fewestFrom_5 ?_
    exact hf_Jret (pc := 6) dX10_fewestFrom_6 (fun _ => rfl)
/-! WeakTable.fillHigh(I)V -/
def M_X10_fillHigh : hf_D := (yX10_fillHigh, cX10_fillHigh, 4, none, 2, 54)
def B_X10_fillHigh_8 (rec_2 : Int → hf_M Int) (x0 x1 x2 : Int) (rec_8 : Int → hf_M Int) (x3 : Int) : hf_M Int :=
  hf_cb x3 x2 (x2 < x3) (hf_bd (hf_gf 10 1 x0) (fun v38 => hf_bd (f_X11_spanAt x2 x1) (fun v43 => hf_bd (hf_gf 10 2 x0) (fun v47 => hf_bd (hf_al 20 v47 (x2 * 41)) (fun v54 => hf_bd (hf_as 20 v38 v43 v54) (fun _ => hf_bd (hf_ret (x2 + (-1))) (fun x2_56 => rec_2 x2_56))))))) (hf_bd (hf_gf 10 2 x0) (fun v14 => hf_bd (hf_ob 10 x0 (f_X10_fewestFrom x0 x2 x1 x3)) (fun v27 => hf_bd (hf_as 20 v14 ((x2 * 41) + x3) v27) (fun _ => hf_bd (hf_ret (x3 + 1)) (fun x3_31 => rec_8 x3_31)))))
def f_X10_fillHigh_8 (rec_2 : Int → hf_M Int) (x0 x1 x2 x3 : Int) : hf_M Int := hf_fx (fun rec s => B_X10_fillHigh_8 rec_2 x0 x1 x2 rec s) hf_N x3
def B_X10_fillHigh_2 (x0 x1 : Int) (rec_2 : Int → hf_M Int) (x2 : Int) : hf_M Int :=
  hf_cz x2 (x2 < 0) (hf_ret 0) (f_X10_fillHigh_8 rec_2 x0 x1 x2 0)
def f_X10_fillHigh_2 (x0 x1 x2 : Int) : hf_M Int := hf_fx (fun rec s => B_X10_fillHigh_2 x0 x1 rec s) hf_N x2
def f_X10_fillHigh (x0 x1 : Int) : hf_M Int :=
  f_X10_fillHigh_2 x0 x1 x1
theorem cal_X10_fillHigh : hf_cv M_X10_fillHigh 10 1 := ⟨⟨ii_X10, kc_X10_fillHigh, by decide, by decide, by decide +kernel⟩, ki_X10_fillHigh, kv_X10_fillHigh, _, rfl, rfl⟩
set_option maxRecDepth 20000 in
theorem jb_X10_fillHigh_8 (x0 x1 x2 : Int) (rec_2 : Int → hf_M Int) (hrec_2 : ∀ s : Int, hf_J M_X10_fillHigh 2 [(0, 2, x0), (1, 0, x1), (2, 0, s)] [] (rec_2 s)) (rec_8 : Int → hf_M Int) (hrec_8 : ∀ s : Int, hf_J M_X10_fillHigh 8 [(0, 2, x0), (1, 0, x1), (2, 0, x2), (3, 0, s)] [] (rec_8 s)) (x3 : Int) : hf_J M_X10_fillHigh 8 [(0, 2, x0), (1, 0, x1), (2, 0, x2), (3, 0, x3)] [] (B_X10_fillHigh_8 rec_2 x0 x1 x2 rec_8 x3) := by
  refine hf_ild_n (pc := 8) 3 rfl rfl dX10_fillHigh_8 ?_
  refine hf_ild_n (pc := 9) 2 rfl rfl dX10_fillHigh_9 ?_
  refine hf_icmp_gt (pc := 10) 37 dX10_fillHigh_10 rfl ?_ ?_
  · refine hf_ald_n (pc := 37) 0 rfl rfl dX10_fillHigh_37 ?_
    refine hf_getf (pc := 38) fl_X10_15 dX10_fillHigh_38 (fun v38 => ?_)
    refine hf_ild_n (pc := 41) 2 rfl rfl dX10_fillHigh_41 ?_
    refine hf_ild_n (pc := 42) 1 rfl rfl dX10_fillHigh_42 ?_
    refine hf_cSN (pc := 43) (N := M_X11_spanAt) (ts := [0, 0]) (vs := [x2, x1]) (st := [(2, v38)]) (fun r => [(0, r), (2, v38)]) (c_X11_spanAt x2 x1) cal_X11_spanAt mn_X10_46 ⟨hf_le rfl, hf_le rfl⟩ (hf_le rfl) ⟨rfl, rfl⟩ rfl dX10_fillHigh_43 (fun _ => rfl) (fun v43 => ?_)
    refine hf_ald_n (pc := 46) 0 rfl rfl dX10_fillHigh_46 ?_
    refine hf_getf (pc := 47) fl_X10_18 dX10_fillHigh_47 (fun v47 => ?_)
    refine hf_ild_n (pc := 50) 2 rfl rfl dX10_fillHigh_50 ?_
    refine hf_bipush (pc := 51) dX10_fillHigh_51 (by decide) ?_
    refine hf_imul (pc := 53) dX10_fillHigh_53 ?_
    refine hf_iald (pc := 54) dX10_fillHigh_54 (fun v54 => ?_)
    refine hf_iast (pc := 55) dX10_fillHigh_55 ?_
    refine hf_iincB (pc := 56) (fun y => [(2, 0, y), (0, 2, x0), (1, 0, x1), (3, 0, x3)]) (q := 2) rfl (by decide) (fun _ => rfl) dX10_fillHigh_56 (fun x2_56 => ?_)
    refine hf_goto (pc := 59) 2 dX10_fillHigh_59 rfl ?_
    exact hf_sub [1, 2, 0] rfl (hrec_2 x2_56)
  · refine hf_ald_n (pc := 13) 0 rfl rfl dX10_fillHigh_13 ?_
    refine hf_getf (pc := 14) fl_X10_18 dX10_fillHigh_14 (fun v14 => ?_)
    refine hf_ild_n (pc := 17) 2 rfl rfl dX10_fillHigh_17 ?_
    refine hf_bipush (pc := 18) dX10_fillHigh_18 (by decide) ?_
    refine hf_imul (pc := 20) dX10_fillHigh_20 ?_
    refine hf_ild_n (pc := 21) 3 rfl rfl dX10_fillHigh_21 ?_
    refine hf_iadd (pc := 22) dX10_fillHigh_22 ?_
    refine hf_ald_n (pc := 23) 0 rfl rfl dX10_fillHigh_23 ?_
    refine hf_ild_n (pc := 24) 2 rfl rfl dX10_fillHigh_24 ?_
    refine hf_ild_n (pc := 25) 1 rfl rfl dX10_fillHigh_25 ?_
    refine hf_ild_n (pc := 26) 3 rfl rfl dX10_fillHigh_26 ?_
    refine hf_cV (pc := 27) (N := M_X10_fewestFrom) (ts := [0, 0, 0]) (vs := [x2, x1, x3]) (st := [(0, ((x2 * 41) + x3)), (2, v14)]) (fun r => [(0, r), (0, ((x2 * 41) + x3)), (2, v14)]) (c_X10_fewestFrom x0 x2 x1 x3) cal_X10_fewestFrom ml_X10_57 ⟨hf_le rfl, hf_le rfl⟩ (hf_le rfl) ⟨rfl, rfl⟩ rfl dX10_fillHigh_27 (fun _ => rfl) (fun v27 => ?_)
    refine hf_iast (pc := 30) dX10_fillHigh_30 ?_
    refine hf_iincB (pc := 31) (fun y => [(3, 0, y), (0, 2, x0), (1, 0, x1), (2, 0, x2)]) (q := 3) rfl (by decide) (fun _ => rfl) dX10_fillHigh_31 (fun x3_31 => ?_)
    refine hf_goto (pc := 34) 8 dX10_fillHigh_34 rfl ?_
    exact hf_sub [1, 2, 3, 0] rfl (hrec_8 x3_31)
set_option maxRecDepth 20000 in
theorem j_X10_fillHigh_8 (x0 x1 x2 x3 : Int) (rec_2 : Int → hf_M Int) (hrec_2 : ∀ s : Int, hf_J M_X10_fillHigh 2 [(0, 2, x0), (1, 0, x1), (2, 0, s)] [] (rec_2 s)) : hf_J M_X10_fillHigh 8 [(0, 2, x0), (1, 0, x1), (2, 0, x2), (3, 0, x3)] [] (f_X10_fillHigh_8 rec_2 x0 x1 x2 x3) :=
  hf_Jfx (L := fun s => [(0, 2, x0), (1, 0, x1), (2, 0, x2), (3, 0, s)]) (fun rec hrec s => jb_X10_fillHigh_8 x0 x1 x2 rec_2 hrec_2 rec hrec s) hf_N x3
set_option maxRecDepth 20000 in
theorem jb_X10_fillHigh_2 (x0 x1 : Int) (rec_2 : Int → hf_M Int) (hrec_2 : ∀ s : Int, hf_J M_X10_fillHigh 2 [(0, 2, x0), (1, 0, x1), (2, 0, s)] [] (rec_2 s)) (x2 : Int) : hf_J M_X10_fillHigh 2 [(0, 2, x0), (1, 0, x1), (2, 0, x2)] [] (B_X10_fillHigh_2 x0 x1 rec_2 x2) := by
  refine hf_ild_n (pc := 2) 2 rfl rfl dX10_fillHigh_2 ?_
  refine hf_if_lt (pc := 3) 62 dX10_fillHigh_3 rfl ?_ ?_
  · exact hf_Jret (pc := 62) dX10_fillHigh_62 (fun _ => rfl)
  · refine hf_iconst (pc := 6) dX10_fillHigh_6 ?_
    refine hf_ist_n (pc := 7) (lv' := [(3, 0, 0), (0, 2, x0), (1, 0, x1), (2, 0, x2)]) rfl (by decide) rfl dX10_fillHigh_7 ?_
    exact hf_sub [1, 2, 3, 0] rfl (j_X10_fillHigh_8 x0 x1 x2 0 rec_2 hrec_2)
set_option maxRecDepth 20000 in
theorem j_X10_fillHigh_2 (x0 x1 x2 : Int) : hf_J M_X10_fillHigh 2 [(0, 2, x0), (1, 0, x1), (2, 0, x2)] [] (f_X10_fillHigh_2 x0 x1 x2) :=
  hf_Jfx (L := fun s => [(0, 2, x0), (1, 0, x1), (2, 0, s)]) (fun rec hrec s => jb_X10_fillHigh_2 x0 x1 rec hrec s) hf_N x2
set_option maxRecDepth 20000 in
theorem c_X10_fillHigh (x0 x1 : Int) : hf_Met M_X10_fillHigh [2, 0] [x0, x1] (f_X10_fillHigh x0 x1) := by
  refine hf_met rfl (by decide) (by decide) (by decide) ?_
  show hf_J M_X10_fillHigh 0 [(0, 2, x0), (1, 0, x1)] [] _
  refine hf_ild_n (pc := 0) 1 rfl rfl dX10_fillHigh_0 ?_
  refine hf_ist_n (pc := 1) (lv' := [(2, 0, x1), (0, 2, x0), (1, 0, x1)]) rfl (by decide) rfl dX10_fillHigh_1 ?_
  exact hf_sub [1, 2, 0] rfl (j_X10_fillHigh_2 x0 x1 x1)
/-! WeakTable.fewestFalls(LHighFall$Stair;II)I -/
def M_X10_fewestFalls : hf_D := (yX10_fewestFalls, cX10_fewestFalls, 6, some .int, 3, 77)
def B_X10_fewestFalls_43 (rec_34 : Int → hf_M Int) (x0 x2 x4 : Int) (rec_43 : Int → hf_M Int) (x5 : Int) : hf_M Int :=
  hf_bd (hf_gf 10 3 x0) (fun v46 => hf_cb x5 v46 (v46 < x5) (hf_bd (hf_gf 10 0 x0) (fun v65 => hf_bd (hf_gf 10 1 x0) (fun v72 => hf_bd (hf_pf 10 0 x0 v72) (fun _ => hf_bd (hf_pf 10 1 x0 v65) (fun _ => hf_bd (hf_ret (x4 + 1)) (fun x4_84 => rec_34 x4_84)))))) (hf_bd (hf_ob 10 x0 (f_X10_fillHigh x0 x5)) (fun _ => hf_bd (hf_ret (x5 + 1)) (fun x5_58 => rec_43 x5_58))))
def f_X10_fewestFalls_43 (rec_34 : Int → hf_M Int) (x0 x2 x4 x5 : Int) : hf_M Int := hf_fx (fun rec s => B_X10_fewestFalls_43 rec_34 x0 x2 x4 rec s) hf_N x5
def B_X10_fewestFalls_34 (x0 x2 : Int) (rec_34 : Int → hf_M Int) (x4 : Int) : hf_M Int :=
  hf_cb x4 x2 (x2 < x4) (hf_bd (hf_gf 10 0 x0) (fun v91 => hf_bd (hf_gf 10 3 x0) (fun v96 => hf_bd (f_X11_spanAt 0 v96) (fun v99 => hf_bd (hf_al 20 v91 v99) (fun v102 => hf_ck (hf_inI v102 ∧ hf_inI 1000000000) (hf_bd (hf_ret (if v102 < 1000000000 then v102 else (-2))) (fun w119 => hf_ret w119))))))) (f_X10_fewestFalls_43 rec_34 x0 x2 x4 0)
def f_X10_fewestFalls_34 (x0 x2 x4 : Int) : hf_M Int := hf_fx (fun rec s => B_X10_fewestFalls_34 x0 x2 rec s) hf_N x4
def f_X10_fewestFalls (x0 x1 x2 x3 : Int) : hf_M Int :=
  hf_bd (hf_ob 10 x0 (f_X10_makeRoom x0)) (fun _ => hf_bd (hf_gf 8 0 x1) (fun v6 => hf_bd (hf_pf 10 3 x0 v6) (fun _ => hf_bd (hf_gf 8 1 x1) (fun v14 => hf_bd (hf_al 20 v14 0) (fun v18 => hf_bd (hf_pf 10 4 x0 v18) (fun _ => hf_bd (hf_pf 10 5 x0 x3) (fun _ => hf_bd (hf_ob 10 x0 (f_X10_fillWithoutPieces x0)) (fun _ => f_X10_fewestFalls_34 x0 x2 1))))))))
theorem cal_X10_fewestFalls : hf_cv M_X10_fewestFalls 10 3 := ⟨⟨ii_X10, kc_X10_fewestFalls, by decide, by decide, by decide +kernel⟩, ki_X10_fewestFalls, kv_X10_fewestFalls, _, rfl, rfl⟩
set_option maxRecDepth 20000 in
theorem jb_X10_fewestFalls_43 (x0 x2 x4 : Int) (rec_34 : Int → hf_M Int) (hrec_34 : ∀ s : Int, hf_J M_X10_fewestFalls 34 [(0, 2, x0), (2, 0, x2), (4, 0, s)] [] (rec_34 s)) (rec_43 : Int → hf_M Int) (hrec_43 : ∀ s : Int, hf_J M_X10_fewestFalls 43 [(0, 2, x0), (2, 0, x2), (4, 0, x4), (5, 0, s)] [] (rec_43 s)) (x5 : Int) : hf_J M_X10_fewestFalls 43 [(0, 2, x0), (2, 0, x2), (4, 0, x4), (5, 0, x5)] [] (B_X10_fewestFalls_43 rec_34 x0 x2 x4 rec_43 x5) := by
  refine hf_ild (pc := 43) 3 rfl dX10_fewestFalls_43 ?_
  refine hf_ald_n (pc := 45) 0 rfl rfl dX10_fewestFalls_45 ?_
  refine hf_getf (pc := 46) fl_X10_21 dX10_fewestFalls_46 (fun v46 => ?_)
  refine hf_icmp_gt (pc := 49) 64 dX10_fewestFalls_49 rfl ?_ ?_
  · refine hf_ald_n (pc := 64) 0 rfl rfl dX10_fewestFalls_64 ?_
    refine hf_getf (pc := 65) fl_X10_9 dX10_fewestFalls_65 (fun v65 => ?_)
    refine hf_ast (pc := 68) (lv' := [(5, 2, v65), (0, 2, x0), (2, 0, x2), (4, 0, x4)]) (by decide) rfl dX10_fewestFalls_68 ?_
    refine hf_ald_n (pc := 70) 1 rfl rfl dX10_fewestFalls_70 ?_
    refine hf_ald_n (pc := 71) 1 rfl rfl dX10_fewestFalls_71 ?_
    refine hf_getf (pc := 72) fl_X10_15 dX10_fewestFalls_72 (fun v72 => ?_)
    refine hf_putf (pc := 75) fl_X10_9 trivial dX10_fewestFalls_75 ?_
    refine hf_ald_n (pc := 78) 1 rfl rfl dX10_fewestFalls_78 ?_
    refine hf_ald (pc := 79) 0 rfl dX10_fewestFalls_79 ?_
    refine hf_putf (pc := 81) fl_X10_15 trivial dX10_fewestFalls_81 ?_
    refine hf_iincB (pc := 84) (fun y => [(4, 0, y), (5, 2, v65), (0, 2, x0), (2, 0, x2)]) (q := 3) rfl (by decide) (fun _ => rfl) dX10_fewestFalls_84 (fun x4_84 => ?_)
    refine hf_goto (pc := 87) 34 dX10_fewestFalls_87 rfl ?_
    exact hf_sub [2, 3, 0] rfl (hrec_34 x4_84)
  · refine hf_ald_n (pc := 52) 0 rfl rfl dX10_fewestFalls_52 ?_
    refine hf_ild (pc := 53) 3 rfl dX10_fewestFalls_53 ?_
    refine hf_cV (pc := 55) (N := M_X10_fillHigh) (ts := [0]) (vs := [x5]) (st := []) (fun r => []) (c_X10_fillHigh x0 x5) cal_X10_fillHigh ml_X10_42 ⟨hf_le rfl, hf_le rfl⟩ (hf_le rfl) ⟨rfl, rfl⟩ rfl dX10_fewestFalls_55 (fun _ => rfl) (fun _ => ?_)
    refine hf_iincB (pc := 58) (fun y => [(5, 0, y), (0, 2, x0), (2, 0, x2), (4, 0, x4)]) (q := 3) rfl (by decide) (fun _ => rfl) dX10_fewestFalls_58 (fun x5_58 => ?_)
    refine hf_goto (pc := 61) 43 dX10_fewestFalls_61 rfl ?_
    exact hf_sub [1, 2, 3, 0] rfl (hrec_43 x5_58)
set_option maxRecDepth 20000 in
theorem j_X10_fewestFalls_43 (x0 x2 x4 x5 : Int) (rec_34 : Int → hf_M Int) (hrec_34 : ∀ s : Int, hf_J M_X10_fewestFalls 34 [(0, 2, x0), (2, 0, x2), (4, 0, s)] [] (rec_34 s)) : hf_J M_X10_fewestFalls 43 [(0, 2, x0), (2, 0, x2), (4, 0, x4), (5, 0, x5)] [] (f_X10_fewestFalls_43 rec_34 x0 x2 x4 x5) :=
  hf_Jfx (L := fun s => [(0, 2, x0), (2, 0, x2), (4, 0, x4), (5, 0, s)]) (fun rec hrec s => jb_X10_fewestFalls_43 x0 x2 x4 rec_34 hrec_34 rec hrec s) hf_N x5
set_option maxRecDepth 20000 in
theorem jb_X10_fewestFalls_34 (x0 x2 : Int) (rec_34 : Int → hf_M Int) (hrec_34 : ∀ s : Int, hf_J M_X10_fewestFalls 34 [(0, 2, x0), (2, 0, x2), (4, 0, s)] [] (rec_34 s)) (x4 : Int) : hf_J M_X10_fewestFalls 34 [(0, 2, x0), (2, 0, x2), (4, 0, x4)] [] (B_X10_fewestFalls_34 x0 x2 rec_34 x4) := by
  refine hf_ild (pc := 34) 2 rfl dX10_fewestFalls_34 ?_
  refine hf_ild_n (pc := 36) 1 rfl rfl dX10_fewestFalls_36 ?_
  refine hf_icmp_gt (pc := 37) 90 dX10_fewestFalls_37 rfl ?_ ?_
  · refine hf_ald_n (pc := 90) 0 rfl rfl dX10_fewestFalls_90 ?_
    refine hf_getf (pc := 91) fl_X10_9 dX10_fewestFalls_91 (fun v91 => ?_)
    refine hf_iconst (pc := 94) dX10_fewestFalls_94 ?_
    refine hf_ald_n (pc := 95) 0 rfl rfl dX10_fewestFalls_95 ?_
    refine hf_getf (pc := 96) fl_X10_21 dX10_fewestFalls_96 (fun v96 => ?_)
    refine hf_cSN (pc := 99) (N := M_X11_spanAt) (ts := [0, 0]) (vs := [0, v96]) (st := [(2, v91)]) (fun r => [(0, r), (2, v91)]) (c_X11_spanAt 0 v96) cal_X11_spanAt mn_X10_46 ⟨hf_le rfl, hf_le rfl⟩ (hf_le rfl) ⟨rfl, rfl⟩ rfl dX10_fewestFalls_99 (fun _ => rfl) (fun v99 => ?_)
    refine hf_iald (pc := 102) dX10_fewestFalls_102 (fun v102 => ?_)
    refine hf_ist (pc := 103) (lv' := [(4, 0, v102), (0, 2, x0), (2, 0, x2)]) (by decide) rfl dX10_fewestFalls_103 ?_
    refine hf_ild (pc := 105) 0 rfl dX10_fewestFalls_105 ?_
    refine hf_ldc (pc := 107) (n := 1000000000) co_X10_50 (by decide) dX10_fewestFalls_107 ?_
    refine hf_Jdib (pc := 109) (pcM := 119) (t := 0) (stM := []) (fun w119 => ?_) (fun a1 a2 => ?_)
    · exact hf_Jret (pc := 119) dX10_fewestFalls_119 (fun _ => rfl)
    · refine hf_icmp_lt (pc := 109) 117 dX10_fewestFalls_109 rfl ?_ ?_
      · refine hf_ild (pc := 117) 0 rfl dX10_fewestFalls_117 ?_
        exact a1
      · refine hf_bipush (pc := 112) dX10_fewestFalls_112 (by decide) ?_
        refine hf_goto (pc := 114) 119 dX10_fewestFalls_114 rfl ?_
        exact a2
  · refine hf_iconst (pc := 40) dX10_fewestFalls_40 ?_
    refine hf_ist (pc := 41) (lv' := [(5, 0, 0), (0, 2, x0), (2, 0, x2), (4, 0, x4)]) (by decide) rfl dX10_fewestFalls_41 ?_
    exact hf_sub [1, 2, 3, 0] rfl (j_X10_fewestFalls_43 x0 x2 x4 0 rec_34 hrec_34)
set_option maxRecDepth 20000 in
theorem j_X10_fewestFalls_34 (x0 x2 x4 : Int) : hf_J M_X10_fewestFalls 34 [(0, 2, x0), (2, 0, x2), (4, 0, x4)] [] (f_X10_fewestFalls_34 x0 x2 x4) :=
  hf_Jfx (L := fun s => [(0, 2, x0), (2, 0, x2), (4, 0, s)]) (fun rec hrec s => jb_X10_fewestFalls_34 x0 x2 rec hrec s) hf_N x4
set_option maxRecDepth 20000 in
theorem c_X10_fewestFalls (x0 x1 x2 x3 : Int) : hf_Met M_X10_fewestFalls [2, 2, 0, 0] [x0, x1, x2, x3] (f_X10_fewestFalls x0 x1 x2 x3) := by
  refine hf_met rfl (by decide) (by decide) (by decide) ?_
  show hf_J M_X10_fewestFalls 0 [(0, 2, x0), (1, 2, x1), (2, 0, x2), (3, 0, x3)] [] _
  refine hf_ald_n (pc := 0) 0 rfl rfl dX10_fewestFalls_0 ?_
  refine hf_cV (pc := 1) (N := M_X10_makeRoom) (ts := []) (vs := []) (st := []) (fun r => []) (c_X10_makeRoom x0) cal_X10_makeRoom ml_X10_31 ⟨hf_le rfl, hf_le rfl⟩ (hf_le rfl) ⟨rfl, rfl⟩ rfl dX10_fewestFalls_1 (fun _ => rfl) (fun _ => ?_)
  refine hf_ald_n (pc := 4) 0 rfl rfl dX10_fewestFalls_4 ?_
  refine hf_ald_n (pc := 5) 1 rfl rfl dX10_fewestFalls_5 ?_
  refine hf_getf (pc := 6) fl_X10_34 dX10_fewestFalls_6 (fun v6 => ?_)
  refine hf_putf (pc := 9) fl_X10_21 trivial dX10_fewestFalls_9 ?_
  refine hf_ald_n (pc := 12) 0 rfl rfl dX10_fewestFalls_12 ?_
  refine hf_ald_n (pc := 13) 1 rfl rfl dX10_fewestFalls_13 ?_
  refine hf_getf (pc := 14) fl_X10_37 dX10_fewestFalls_14 (fun v14 => ?_)
  refine hf_iconst (pc := 17) dX10_fewestFalls_17 ?_
  refine hf_iald (pc := 18) dX10_fewestFalls_18 (fun v18 => ?_)
  refine hf_putf (pc := 19) fl_X10_25 trivial dX10_fewestFalls_19 ?_
  refine hf_ald_n (pc := 22) 0 rfl rfl dX10_fewestFalls_22 ?_
  refine hf_ild_n (pc := 23) 3 rfl rfl dX10_fewestFalls_23 ?_
  refine hf_putf (pc := 24) fl_X10_28 trivial dX10_fewestFalls_24 ?_
  refine hf_ald_n (pc := 27) 0 rfl rfl dX10_fewestFalls_27 ?_
  refine hf_cV (pc := 28) (N := M_X10_fillWithoutPieces) (ts := []) (vs := []) (st := []) (fun r => []) (c_X10_fillWithoutPieces x0) cal_X10_fillWithoutPieces ml_X10_39 ⟨hf_le rfl, hf_le rfl⟩ (hf_le rfl) ⟨rfl, rfl⟩ rfl dX10_fewestFalls_28 (fun _ => rfl) (fun _ => ?_)
  refine hf_iconst (pc := 31) dX10_fewestFalls_31 ?_
  refine hf_ist (pc := 32) (lv' := [(4, 0, 1), (0, 2, x0), (1, 2, x1), (2, 0, x2), (3, 0, x3)]) (by decide) rfl dX10_fewestFalls_32 ?_
  exact hf_sub [1, 3, 0] rfl (j_X10_fewestFalls_34 x0 x2 1)
/-! LieTable.fewestFrom(I)I -/
def M_X2_fewestFrom : hf_D := (yX2_fewestFrom, cX2_fewestFrom, 8, some .int, 1, 24)
def f_X2_fewestFrom_93 (rec_26 : Int × Int → hf_M Int) (x0 x1 x2 x3 x4 : Int) : hf_M Int :=
  hf_bd (hf_ret (x4 + 1)) (fun x4_93 => rec_26 (x3, x4_93))
def B_X2_fewestFrom_26 (x0 x1 x2 : Int) (rec_26 : Int × Int → hf_M Int) (x3 x4 : Int) : hf_M Int :=
  hf_cb x4 7 (7 < x4) (hf_ret x3) (hf_bd (hf_ret (hf_and x2 ((hf_shl 1 (2 * x4)) - 1))) (fun x5_43 => hf_bd (hf_ret (x2 - x5_43)) (fun x6_49 => hf_cz x5_43 (x5_43 = 0) (f_X2_fewestFrom_93 rec_26 x0 x1 x2 x3 x4) (hf_cz x6_49 (x6_49 = 0) (f_X2_fewestFrom_93 rec_26 x0 x1 x2 x3 x4) (hf_bd (hf_gf 2 0 x0) (fun v62 => hf_bd (hf_al 22 v62 (x1 - x5_43)) (fun v69 => hf_bd (hf_gf 2 0 x0) (fun v71 => hf_bd (hf_al 22 v71 (x1 - x6_49)) (fun v78 => hf_ck (hf_inI v69 ∧ hf_inI v78) (hf_bd (hf_ret (max v69 v78)) (fun v79 => hf_ck (hf_inI x3 ∧ hf_inI (v79 + 1)) (hf_bd (hf_ret (min x3 (v79 + 1))) (fun v89 => f_X2_fewestFrom_93 rec_26 x0 x1 x2 v89 x4)))))))))))))
def f_X2_fewestFrom_26 (x0 x1 x2 x3 x4 : Int) : hf_M Int := hf_fx (fun rec s => B_X2_fewestFrom_26 x0 x1 x2 rec s.1 s.2) hf_N (x3, x4)
def f_X2_fewestFrom (x0 x1 : Int) : hf_M Int :=
  hf_bd (hf_ret (hf_and (hf_or x1 (hf_shr x1 1)) 21845)) (fun x2_9 => hf_bd (f_J6_bitCount_0f7a4 x2_9) (fun v11 => hf_cb v11 1 (1 < v11) (f_X2_fewestFrom_26 x0 x1 x2_9 100 1) (hf_ret 0)))
theorem cal_X2_fewestFrom : hf_cv M_X2_fewestFrom 2 1 := ⟨⟨ii_X2, kc_X2_fewestFrom, by decide, by decide, by decide +kernel⟩, ki_X2_fewestFrom, kv_X2_fewestFrom, _, rfl, rfl⟩
set_option maxRecDepth 20000 in
theorem j_X2_fewestFrom_93 (x0 x1 x2 x3 x4 : Int) (rec_26 : Int × Int → hf_M Int) (hrec_26 : ∀ s : Int × Int, hf_J M_X2_fewestFrom 26 [(0, 2, x0), (1, 0, x1), (2, 0, x2), (3, 0, s.1), (4, 0, s.2)] [] (rec_26 s)) : hf_J M_X2_fewestFrom 93 [(0, 2, x0), (1, 0, x1), (2, 0, x2), (3, 0, x3), (4, 0, x4)] [] (f_X2_fewestFrom_93 rec_26 x0 x1 x2 x3 x4) := by
  refine hf_iincB (pc := 93) (fun y => [(4, 0, y), (0, 2, x0), (1, 0, x1), (2, 0, x2), (3, 0, x3)]) (q := 4) rfl (by decide) (fun _ => rfl) dX2_fewestFrom_93 (fun x4_93 => ?_)
  refine hf_goto (pc := 96) 26 dX2_fewestFrom_96 rfl ?_
  exact hf_sub [1, 2, 3, 4, 0] rfl (hrec_26 (x3, x4_93))
set_option maxRecDepth 20000 in
theorem jb_X2_fewestFrom_26 (x0 x1 x2 : Int) (rec_26 : Int × Int → hf_M Int) (hrec_26 : ∀ s : Int × Int, hf_J M_X2_fewestFrom 26 [(0, 2, x0), (1, 0, x1), (2, 0, x2), (3, 0, s.1), (4, 0, s.2)] [] (rec_26 s)) (x3 x4 : Int) : hf_J M_X2_fewestFrom 26 [(0, 2, x0), (1, 0, x1), (2, 0, x2), (3, 0, x3), (4, 0, x4)] [] (B_X2_fewestFrom_26 x0 x1 x2 rec_26 x3 x4) := by
  refine hf_ild (pc := 26) 4 rfl dX2_fewestFrom_26 ?_
  refine hf_bipush (pc := 28) dX2_fewestFrom_28 (by decide) ?_
  refine hf_icmp_gt (pc := 30) 99 dX2_fewestFrom_30 rfl ?_ ?_
  · refine hf_ild_n (pc := 99) 3 rfl rfl dX2_fewestFrom_99 ?_
    exact hf_Jret (pc := 100) dX2_fewestFrom_100 (fun _ => rfl)
  · refine hf_ild_n (pc := 33) 2 rfl rfl dX2_fewestFrom_33 ?_
    refine hf_iconst (pc := 34) dX2_fewestFrom_34 ?_
    refine hf_iconst (pc := 35) dX2_fewestFrom_35 ?_
    refine hf_ild (pc := 36) 4 rfl dX2_fewestFrom_36 ?_
    refine hf_imul (pc := 38) dX2_fewestFrom_38 ?_
    refine hf_ishl (pc := 39) dX2_fewestFrom_39 ?_
    refine hf_iconst (pc := 40) dX2_fewestFrom_40 ?_
    refine hf_isub (pc := 41) dX2_fewestFrom_41 ?_
    refine hf_iand (pc := 42) dX2_fewestFrom_42 ?_
    refine hf_istB (pc := 43) (fun y => [(5, 0, y), (0, 2, x0), (1, 0, x1), (2, 0, x2), (3, 0, x3), (4, 0, x4)]) (by decide) (fun _ => rfl) dX2_fewestFrom_43 (fun x5_43 => ?_)
    refine hf_ild_n (pc := 45) 3 rfl rfl dX2_fewestFrom_45 ?_
    refine hf_ild (pc := 46) 0 rfl dX2_fewestFrom_46 ?_
    refine hf_isub (pc := 48) dX2_fewestFrom_48 ?_
    refine hf_istB (pc := 49) (fun y => [(6, 0, y), (5, 0, x5_43), (0, 2, x0), (1, 0, x1), (2, 0, x2), (3, 0, x3), (4, 0, x4)]) (by decide) (fun _ => rfl) dX2_fewestFrom_49 (fun x6_49 => ?_)
    refine hf_ild (pc := 51) 1 rfl dX2_fewestFrom_51 ?_
    refine hf_if_eq (pc := 53) 93 dX2_fewestFrom_53 rfl ?_ ?_
    · exact hf_sub [2, 3, 4, 5, 6] rfl (j_X2_fewestFrom_93 x0 x1 x2 x3 x4 rec_26 hrec_26)
    · refine hf_ild (pc := 56) 0 rfl dX2_fewestFrom_56 ?_
      refine hf_if_eq (pc := 58) 93 dX2_fewestFrom_58 rfl ?_ ?_
      · exact hf_sub [2, 3, 4, 5, 6] rfl (j_X2_fewestFrom_93 x0 x1 x2 x3 x4 rec_26 hrec_26)
      · refine hf_ald_n (pc := 61) 2 rfl rfl dX2_fewestFrom_61 ?_
        refine hf_getf (pc := 62) fl_X2_9 dX2_fewestFrom_62 (fun v62 => ?_)
        refine hf_ild_n (pc := 65) 3 rfl rfl dX2_fewestFrom_65 ?_
        refine hf_ild (pc := 66) 1 rfl dX2_fewestFrom_66 ?_
        refine hf_isub (pc := 68) dX2_fewestFrom_68 ?_
        refine hf_bald (pc := 69) dX2_fewestFrom_69 (fun v69 => ?_)
        refine hf_ald_n (pc := 70) 2 rfl rfl dX2_fewestFrom_70 ?_
        refine hf_getf (pc := 71) fl_X2_9 dX2_fewestFrom_71 (fun v71 => ?_)
        refine hf_ild_n (pc := 74) 3 rfl rfl dX2_fewestFrom_74 ?_
        refine hf_ild (pc := 75) 0 rfl dX2_fewestFrom_75 ?_
        refine hf_isub (pc := 77) dX2_fewestFrom_77 ?_
        refine hf_bald (pc := 78) dX2_fewestFrom_78 (fun v78 => ?_)
        refine hf_mmax (pc := 79) ml_X2_34 ⟨hf_le rfl, hf_le rfl⟩ dX2_fewestFrom_79 (fun v79 => ?_)
        refine hf_ist (pc := 82) (lv' := [(7, 0, v79), (6, 0, x6_49), (5, 0, x5_43), (0, 2, x0), (1, 0, x1), (2, 0, x2), (3, 0, x3), (4, 0, x4)]) (by decide) rfl dX2_fewestFrom_82 ?_
        refine hf_ild_n (pc := 84) 6 rfl rfl dX2_fewestFrom_84 ?_
        refine hf_ild (pc := 85) 0 rfl dX2_fewestFrom_85 ?_
        refine hf_iconst (pc := 87) dX2_fewestFrom_87 ?_
        refine hf_iadd (pc := 88) dX2_fewestFrom_88 ?_
        refine hf_mmin (pc := 89) ml_X2_40 ⟨hf_le rfl, hf_le rfl⟩ dX2_fewestFrom_89 (fun v89 => ?_)
        refine hf_ist_n (pc := 92) (lv' := [(3, 0, v89), (7, 0, v79), (6, 0, x6_49), (5, 0, x5_43), (0, 2, x0), (1, 0, x1), (2, 0, x2), (4, 0, x4)]) rfl (by decide) rfl dX2_fewestFrom_92 ?_
        exact hf_sub [4, 5, 6, 0, 7] rfl (j_X2_fewestFrom_93 x0 x1 x2 v89 x4 rec_26 hrec_26)
set_option maxRecDepth 20000 in
theorem j_X2_fewestFrom_26 (x0 x1 x2 x3 x4 : Int) : hf_J M_X2_fewestFrom 26 [(0, 2, x0), (1, 0, x1), (2, 0, x2), (3, 0, x3), (4, 0, x4)] [] (f_X2_fewestFrom_26 x0 x1 x2 x3 x4) :=
  hf_Jfx (L := fun s => [(0, 2, x0), (1, 0, x1), (2, 0, x2), (3, 0, s.1), (4, 0, s.2)]) (fun rec hrec s => jb_X2_fewestFrom_26 x0 x1 x2 rec hrec s.1 s.2) hf_N (x3, x4)
set_option maxRecDepth 20000 in
theorem c_X2_fewestFrom (x0 x1 : Int) : hf_Met M_X2_fewestFrom [2, 0] [x0, x1] (f_X2_fewestFrom x0 x1) := by
  refine hf_met rfl (by decide) (by decide) (by decide) ?_
  show hf_J M_X2_fewestFrom 0 [(0, 2, x0), (1, 0, x1)] [] _
  refine hf_ild_n (pc := 0) 1 rfl rfl dX2_fewestFrom_0 ?_
  refine hf_ild_n (pc := 1) 1 rfl rfl dX2_fewestFrom_1 ?_
  refine hf_iconst (pc := 2) dX2_fewestFrom_2 ?_
  refine hf_ishr (pc := 3) dX2_fewestFrom_3 ?_
  refine hf_ior (pc := 4) dX2_fewestFrom_4 ?_
  refine hf_sipush (pc := 5) dX2_fewestFrom_5 (by decide) ?_
  refine hf_iand (pc := 8) dX2_fewestFrom_8 ?_
  refine hf_ist_nB (pc := 9) (fun y => [(2, 0, y), (0, 2, x0), (1, 0, x1)]) rfl (by decide) (fun _ => rfl) dX2_fewestFrom_9 (fun x2_9 => ?_)
  refine hf_ild_n (pc := 10) 0 rfl rfl dX2_fewestFrom_10 ?_
  refine hf_cS (pc := 11) (N := M_J6_bitCount_0f7a4) (ts := [0]) (vs := [x2_9]) (st := []) (fun r => [(0, r)]) (c_J6_bitCount_0f7a4 x2_9) cal_J6_bitCount_0f7a4 ml_X2_29 ⟨hf_le rfl, hf_le rfl⟩ (hf_le rfl) ⟨rfl, rfl⟩ rfl dX2_fewestFrom_11 (fun _ => rfl) (fun v11 => ?_)
  refine hf_iconst (pc := 14) dX2_fewestFrom_14 ?_
  refine hf_icmp_gt (pc := 15) 20 dX2_fewestFrom_15 rfl ?_ ?_
  · refine hf_bipush (pc := 20) dX2_fewestFrom_20 (by decide) ?_
    refine hf_ist_n (pc := 22) (lv' := [(3, 0, 100), (2, 0, x2_9), (0, 2, x0), (1, 0, x1)]) rfl (by decide) rfl dX2_fewestFrom_22 ?_
    refine hf_iconst (pc := 23) dX2_fewestFrom_23 ?_
    refine hf_ist (pc := 24) (lv' := [(4, 0, 1), (3, 0, 100), (2, 0, x2_9), (0, 2, x0), (1, 0, x1)]) (by decide) rfl dX2_fewestFrom_24 ?_
    exact hf_sub [3, 4, 2, 1, 0] rfl (j_X2_fewestFrom_26 x0 x1 x2_9 100 1)
  · refine hf_iconst (pc := 18) dX2_fewestFrom_18 ?_
    exact hf_Jret (pc := 19) dX2_fewestFrom_19 (fun _ => rfl)
/-! NoteBook.settle()V -/
def M_X3_settle : hf_D := (yX3_settle, cX3_settle, 2, none, 0, 0)
def f_X3_settle_65 (rec_30 : Int → hf_M Int) (x0 x1 : Int) : hf_M Int :=
  hf_bd (hf_ret (x1 + (-1))) (fun x1_65 => rec_30 x1_65)
def B_X3_settle_30 (x0 : Int) (rec_30 : Int → hf_M Int) (x1 : Int) : hf_M Int :=
  hf_cz x1 (x1 < 0) (hf_ret 0) (hf_bd (hf_gf 3 6 x0) (fun v35 => hf_bd (hf_al 23 v35 x1) (fun v39 => hf_cz v39 (v39 = 0) (f_X3_settle_65 rec_30 x0 x1) (hf_bd (hf_gf 3 5 x0) (fun v44 => hf_bd (hf_al 20 v44 x1) (fun v48 => hf_cb v48 (-1) (v48 = (-1)) (f_X3_settle_65 rec_30 x0 x1) (hf_bd (hf_gf 3 6 x0) (fun v54 => hf_bd (hf_gf 3 5 x0) (fun v58 => hf_bd (hf_al 20 v58 x1) (fun v62 => hf_bd (hf_as 23 v54 v62 0) (fun _ => f_X3_settle_65 rec_30 x0 x1)))))))))))
def f_X3_settle_30 (x0 x1 : Int) : hf_M Int := hf_fx (fun rec s => B_X3_settle_30 x0 rec s) hf_N x1
def B_X3_settle_2 (x0 : Int) (rec_2 : Int → hf_M Int) (x1 : Int) : hf_M Int :=
  hf_bd (hf_gf 3 0 x0) (fun v4 => hf_cb x1 v4 (v4 ≤ x1) (hf_bd (hf_gf 3 0 x0) (fun v24 => hf_bd (hf_ret (v24 - 1)) (fun x1_29 => f_X3_settle_30 x0 x1_29))) (hf_bd (hf_gf 3 6 x0) (fun v11 => hf_bd (hf_as 23 v11 x1 1) (fun _ => hf_bd (hf_ret (x1 + 1)) (fun x1_17 => rec_2 x1_17)))))
def f_X3_settle_2 (x0 x1 : Int) : hf_M Int := hf_fx (fun rec s => B_X3_settle_2 x0 rec s) hf_N x1
def f_X3_settle (x0 : Int) : hf_M Int :=
  f_X3_settle_2 x0 0
theorem cal_X3_settle : hf_cv M_X3_settle 3 0 := ⟨⟨ii_X3, kc_X3_settle, by decide, by decide, by decide +kernel⟩, ki_X3_settle, kv_X3_settle, _, rfl, rfl⟩
set_option maxRecDepth 20000 in
theorem j_X3_settle_65 (x0 x1 : Int) (rec_30 : Int → hf_M Int) (hrec_30 : ∀ s : Int, hf_J M_X3_settle 30 [(0, 2, x0), (1, 0, s)] [] (rec_30 s)) : hf_J M_X3_settle 65 [(0, 2, x0), (1, 0, x1)] [] (f_X3_settle_65 rec_30 x0 x1) := by
  refine hf_iincB (pc := 65) (fun y => [(1, 0, y), (0, 2, x0)]) (q := 1) rfl (by decide) (fun _ => rfl) dX3_settle_65 (fun x1_65 => ?_)
  refine hf_goto (pc := 68) 30 dX3_settle_68 rfl ?_
  exact hf_sub [1, 0] rfl (hrec_30 x1_65)
set_option maxRecDepth 20000 in
theorem jb_X3_settle_30 (x0 : Int) (rec_30 : Int → hf_M Int) (hrec_30 : ∀ s : Int, hf_J M_X3_settle 30 [(0, 2, x0), (1, 0, s)] [] (rec_30 s)) (x1 : Int) : hf_J M_X3_settle 30 [(0, 2, x0), (1, 0, x1)] [] (B_X3_settle_30 x0 rec_30 x1) := by
  refine hf_ild_n (pc := 30) 1 rfl rfl dX3_settle_30 ?_
  refine hf_if_lt (pc := 31) 71 dX3_settle_31 rfl ?_ ?_
  · exact hf_Jret (pc := 71) dX3_settle_71 (fun _ => rfl)
  · refine hf_ald_n (pc := 34) 0 rfl rfl dX3_settle_34 ?_
    refine hf_getf (pc := 35) fl_X3_32 dX3_settle_35 (fun v35 => ?_)
    refine hf_ild_n (pc := 38) 1 rfl rfl dX3_settle_38 ?_
    refine hf_zald (pc := 39) dX3_settle_39 (fun v39 => ?_)
    refine hf_if_eq (pc := 40) 65 dX3_settle_40 rfl ?_ ?_
    · exact hf_sub [0, 1] rfl (j_X3_settle_65 x0 x1 rec_30 hrec_30)
    · refine hf_ald_n (pc := 43) 0 rfl rfl dX3_settle_43 ?_
      refine hf_getf (pc := 44) fl_X3_29 dX3_settle_44 (fun v44 => ?_)
      refine hf_ild_n (pc := 47) 1 rfl rfl dX3_settle_47 ?_
      refine hf_iald (pc := 48) dX3_settle_48 (fun v48 => ?_)
      refine hf_iconst (pc := 49) dX3_settle_49 ?_
      refine hf_icmp_eq (pc := 50) 65 dX3_settle_50 rfl ?_ ?_
      · exact hf_sub [0, 1] rfl (j_X3_settle_65 x0 x1 rec_30 hrec_30)
      · refine hf_ald_n (pc := 53) 0 rfl rfl dX3_settle_53 ?_
        refine hf_getf (pc := 54) fl_X3_32 dX3_settle_54 (fun v54 => ?_)
        refine hf_ald_n (pc := 57) 0 rfl rfl dX3_settle_57 ?_
        refine hf_getf (pc := 58) fl_X3_29 dX3_settle_58 (fun v58 => ?_)
        refine hf_ild_n (pc := 61) 1 rfl rfl dX3_settle_61 ?_
        refine hf_iald (pc := 62) dX3_settle_62 (fun v62 => ?_)
        refine hf_iconst (pc := 63) dX3_settle_63 ?_
        refine hf_zast (pc := 64) (Or.inl rfl) dX3_settle_64 ?_
        exact hf_sub [0, 1] rfl (j_X3_settle_65 x0 x1 rec_30 hrec_30)
set_option maxRecDepth 20000 in
theorem j_X3_settle_30 (x0 x1 : Int) : hf_J M_X3_settle 30 [(0, 2, x0), (1, 0, x1)] [] (f_X3_settle_30 x0 x1) :=
  hf_Jfx (L := fun s => [(0, 2, x0), (1, 0, s)]) (fun rec hrec s => jb_X3_settle_30 x0 rec hrec s) hf_N x1
set_option maxRecDepth 20000 in
theorem jb_X3_settle_2 (x0 : Int) (rec_2 : Int → hf_M Int) (hrec_2 : ∀ s : Int, hf_J M_X3_settle 2 [(0, 2, x0), (1, 0, s)] [] (rec_2 s)) (x1 : Int) : hf_J M_X3_settle 2 [(0, 2, x0), (1, 0, x1)] [] (B_X3_settle_2 x0 rec_2 x1) := by
  refine hf_ild_n (pc := 2) 1 rfl rfl dX3_settle_2 ?_
  refine hf_ald_n (pc := 3) 0 rfl rfl dX3_settle_3 ?_
  refine hf_getf (pc := 4) fl_X3_9 dX3_settle_4 (fun v4 => ?_)
  refine hf_icmp_ge (pc := 7) 23 dX3_settle_7 rfl ?_ ?_
  · refine hf_ald_n (pc := 23) 0 rfl rfl dX3_settle_23 ?_
    refine hf_getf (pc := 24) fl_X3_9 dX3_settle_24 (fun v24 => ?_)
    refine hf_iconst (pc := 27) dX3_settle_27 ?_
    refine hf_isub (pc := 28) dX3_settle_28 ?_
    refine hf_ist_nB (pc := 29) (fun y => [(1, 0, y), (0, 2, x0)]) rfl (by decide) (fun _ => rfl) dX3_settle_29 (fun x1_29 => ?_)
    exact hf_sub [1, 0] rfl (j_X3_settle_30 x0 x1_29)
  · refine hf_ald_n (pc := 10) 0 rfl rfl dX3_settle_10 ?_
    refine hf_getf (pc := 11) fl_X3_32 dX3_settle_11 (fun v11 => ?_)
    refine hf_ild_n (pc := 14) 1 rfl rfl dX3_settle_14 ?_
    refine hf_iconst (pc := 15) dX3_settle_15 ?_
    refine hf_zast (pc := 16) (Or.inr rfl) dX3_settle_16 ?_
    refine hf_iincB (pc := 17) (fun y => [(1, 0, y), (0, 2, x0)]) (q := 1) rfl (by decide) (fun _ => rfl) dX3_settle_17 (fun x1_17 => ?_)
    refine hf_goto (pc := 20) 2 dX3_settle_20 rfl ?_
    exact hf_sub [1, 0] rfl (hrec_2 x1_17)
set_option maxRecDepth 20000 in
theorem j_X3_settle_2 (x0 x1 : Int) : hf_J M_X3_settle 2 [(0, 2, x0), (1, 0, x1)] [] (f_X3_settle_2 x0 x1) :=
  hf_Jfx (L := fun s => [(0, 2, x0), (1, 0, s)]) (fun rec hrec s => jb_X3_settle_2 x0 rec hrec s) hf_N x1
set_option maxRecDepth 20000 in
theorem c_X3_settle (x0 : Int) : hf_Met M_X3_settle [2] [x0] (f_X3_settle x0) := by
  refine hf_met rfl (by decide) (by decide) (by decide) ?_
  show hf_J M_X3_settle 0 [(0, 2, x0)] [] _
  refine hf_iconst (pc := 0) dX3_settle_0 ?_
  refine hf_ist_n (pc := 1) (lv' := [(1, 0, 0), (0, 2, x0)]) rfl (by decide) rfl dX3_settle_1 ?_
  exact hf_sub [1, 0] rfl (j_X3_settle_2 x0 0)
/-! NoteBook.close(I)I -/
def M_X3_close : hf_D := (yX3_close, cX3_close, 2, some .int, 1, 21)
def f_X3_close (x0 x1 : Int) : hf_M Int :=
  hf_bd (hf_gf 3 5 x0) (fun v1 => hf_bd (hf_gf 3 0 x0) (fun v5 => hf_bd (hf_as 20 v1 v5 x1) (fun _ => hf_bd (hf_gf 3 0 x0) (fun v12 => hf_bd (hf_pf 3 0 x0 (v12 + 1)) (fun _ => hf_bd (hf_ob 3 x0 (f_X3_settle x0)) (fun _ => hf_bd (hf_gf 3 0 x0) (fun v25 => hf_ret (v25 - 1))))))))
theorem cal_X3_close : hf_cv M_X3_close 3 1 := ⟨⟨ii_X3, kc_X3_close, by decide, by decide, by decide +kernel⟩, ki_X3_close, kv_X3_close, _, rfl, rfl⟩
set_option maxRecDepth 20000 in
theorem c_X3_close (x0 x1 : Int) : hf_Met M_X3_close [2, 0] [x0, x1] (f_X3_close x0 x1) := by
  refine hf_met rfl (by decide) (by decide) (by decide) ?_
  show hf_J M_X3_close 0 [(0, 2, x0), (1, 0, x1)] [] _
  refine hf_ald_n (pc := 0) 0 rfl rfl dX3_close_0 ?_
  refine hf_getf (pc := 1) fl_X3_29 dX3_close_1 (fun v1 => ?_)
  refine hf_ald_n (pc := 4) 0 rfl rfl dX3_close_4 ?_
  refine hf_getf (pc := 5) fl_X3_9 dX3_close_5 (fun v5 => ?_)
  refine hf_ild_n (pc := 8) 1 rfl rfl dX3_close_8 ?_
  refine hf_iast (pc := 9) dX3_close_9 ?_
  refine hf_ald_n (pc := 10) 0 rfl rfl dX3_close_10 ?_
  refine hf_dup (pc := 11) (by decide) dX3_close_11 ?_
  refine hf_getf (pc := 12) fl_X3_9 dX3_close_12 (fun v12 => ?_)
  refine hf_iconst (pc := 15) dX3_close_15 ?_
  refine hf_iadd (pc := 16) dX3_close_16 ?_
  refine hf_putf (pc := 17) fl_X3_9 trivial dX3_close_17 ?_
  refine hf_ald_n (pc := 20) 0 rfl rfl dX3_close_20 ?_
  refine hf_cV (pc := 21) (N := M_X3_settle) (ts := []) (vs := []) (st := []) (fun r => []) (c_X3_settle x0) cal_X3_settle ml_X3_42 ⟨hf_le rfl, hf_le rfl⟩ (hf_le rfl) ⟨rfl, rfl⟩ rfl dX3_close_21 (fun _ => rfl) (fun _ => ?_)
  refine hf_ald_n (pc := 24) 0 rfl rfl dX3_close_24 ?_
  refine hf_getf (pc := 25) fl_X3_9 dX3_close_25 (fun v25 => ?_)
  refine hf_iconst (pc := 28) dX3_close_28 ?_
  refine hf_isub (pc := 29) dX3_close_29 ?_
  exact hf_Jret (pc := 30) dX3_close_30 (fun _ => rfl)
/-! NoteBook.write(IIIZ)I -/
def M_X3_write : hf_D := (yX3_write, cX3_write, 5, some .int, 2, 42)
def f_X3_write (x0 x1 x2 x3 x4 : Int) : hf_M Int :=
  hf_bd (hf_gf 3 0 x0) (fun v1 => hf_cb v1 40 (v1 < 40) (hf_bd (hf_gf 3 1 x0) (fun v12 => hf_bd (hf_gf 3 0 x0) (fun v16 => hf_bd (hf_as 20 v12 v16 x1) (fun _ => hf_bd (hf_gf 3 2 x0) (fun v22 => hf_bd (hf_gf 3 0 x0) (fun v26 => hf_bd (hf_as 20 v22 v26 x2) (fun _ => hf_bd (hf_gf 3 3 x0) (fun v32 => hf_bd (hf_gf 3 0 x0) (fun v36 => hf_bd (hf_as 20 v32 v36 x3) (fun _ => hf_bd (hf_gf 3 4 x0) (fun v42 => hf_bd (hf_gf 3 0 x0) (fun v46 => hf_ck (x4 = 0 ∨ x4 = 1) (hf_bd (hf_as 23 v42 v46 x4) (fun _ => hf_bd (hf_ob 3 x0 (f_X3_close x0 (-1))) (fun v54 => hf_ret v54))))))))))))))) (hf_ret (-1)))
theorem cal_X3_write : hf_cv M_X3_write 3 4 := ⟨⟨ii_X3, kc_X3_write, by decide, by decide, by decide +kernel⟩, ki_X3_write, kv_X3_write, _, rfl, rfl⟩
set_option maxRecDepth 20000 in
theorem c_X3_write (x0 x1 x2 x3 x4 : Int) : hf_Met M_X3_write [2, 0, 0, 0, 0] [x0, x1, x2, x3, x4] (f_X3_write x0 x1 x2 x3 x4) := by
  refine hf_met rfl (by decide) (by decide) (by decide) ?_
  show hf_J M_X3_write 0 [(0, 2, x0), (1, 0, x1), (2, 0, x2), (3, 0, x3), (4, 0, x4)] [] _
  refine hf_ald_n (pc := 0) 0 rfl rfl dX3_write_0 ?_
  refine hf_getf (pc := 1) fl_X3_9 dX3_write_1 (fun v1 => ?_)
  refine hf_bipush (pc := 4) dX3_write_4 (by decide) ?_
  refine hf_icmp_lt (pc := 6) 11 dX3_write_6 rfl ?_ ?_
  · refine hf_ald_n (pc := 11) 0 rfl rfl dX3_write_11 ?_
    refine hf_getf (pc := 12) fl_X3_15 dX3_write_12 (fun v12 => ?_)
    refine hf_ald_n (pc := 15) 0 rfl rfl dX3_write_15 ?_
    refine hf_getf (pc := 16) fl_X3_9 dX3_write_16 (fun v16 => ?_)
    refine hf_ild_n (pc := 19) 1 rfl rfl dX3_write_19 ?_
    refine hf_iast (pc := 20) dX3_write_20 ?_
    refine hf_ald_n (pc := 21) 0 rfl rfl dX3_write_21 ?_
    refine hf_getf (pc := 22) fl_X3_19 dX3_write_22 (fun v22 => ?_)
    refine hf_ald_n (pc := 25) 0 rfl rfl dX3_write_25 ?_
    refine hf_getf (pc := 26) fl_X3_9 dX3_write_26 (fun v26 => ?_)
    refine hf_ild_n (pc := 29) 2 rfl rfl dX3_write_29 ?_
    refine hf_iast (pc := 30) dX3_write_30 ?_
    refine hf_ald_n (pc := 31) 0 rfl rfl dX3_write_31 ?_
    refine hf_getf (pc := 32) fl_X3_22 dX3_write_32 (fun v32 => ?_)
    refine hf_ald_n (pc := 35) 0 rfl rfl dX3_write_35 ?_
    refine hf_getf (pc := 36) fl_X3_9 dX3_write_36 (fun v36 => ?_)
    refine hf_ild_n (pc := 39) 3 rfl rfl dX3_write_39 ?_
    refine hf_iast (pc := 40) dX3_write_40 ?_
    refine hf_ald_n (pc := 41) 0 rfl rfl dX3_write_41 ?_
    refine hf_getf (pc := 42) fl_X3_25 dX3_write_42 (fun v42 => ?_)
    refine hf_ald_n (pc := 45) 0 rfl rfl dX3_write_45 ?_
    refine hf_getf (pc := 46) fl_X3_9 dX3_write_46 (fun v46 => ?_)
    refine hf_ild (pc := 49) 4 rfl dX3_write_49 ?_
    refine hf_Jck (fun hz => ?_)
    refine hf_zast (pc := 51) hz dX3_write_51 ?_
    refine hf_ald_n (pc := 52) 0 rfl rfl dX3_write_52 ?_
    refine hf_iconst (pc := 53) dX3_write_53 ?_
    refine hf_cV (pc := 54) (N := M_X3_close) (ts := [0]) (vs := [(-1)]) (st := []) (fun r => [(0, r)]) (c_X3_close x0 (-1)) cal_X3_close ml_X3_38 ⟨hf_le rfl, hf_le rfl⟩ (hf_le rfl) ⟨rfl, rfl⟩ rfl dX3_write_54 (fun _ => rfl) (fun v54 => ?_)
    exact hf_Jret (pc := 57) dX3_write_57 (fun _ => rfl)
  · refine hf_iconst (pc := 9) dX3_write_9 ?_
    exact hf_Jret (pc := 10) dX3_write_10 (fun _ => rfl)
/-! NoteBook.writeStrike(I)I -/
def M_X3_writeStrike : hf_D := (yX3_writeStrike, cX3_writeStrike, 2, some .int, 2, 42)
def f_X3_writeStrike (x0 x1 : Int) : hf_M Int :=
  hf_cz x1 (x1 < 0) (hf_ret (-1)) (hf_bd (hf_gf 3 0 x0) (fun v6 => hf_cb x1 v6 (v6 ≤ x1) (hf_ret (-1)) (hf_bd (hf_gf 3 0 x0) (fun v13 => hf_cb v13 40 (v13 < 40) (hf_bd (hf_ob 3 x0 (f_X3_close x0 x1)) (fun v25 => hf_ret v25)) (hf_ret (-1))))))
theorem cal_X3_writeStrike : hf_cv M_X3_writeStrike 3 1 := ⟨⟨ii_X3, kc_X3_writeStrike, by decide, by decide, by decide +kernel⟩, ki_X3_writeStrike, kv_X3_writeStrike, _, rfl, rfl⟩
set_option maxRecDepth 20000 in
theorem c_X3_writeStrike (x0 x1 : Int) : hf_Met M_X3_writeStrike [2, 0] [x0, x1] (f_X3_writeStrike x0 x1) := by
  refine hf_met rfl (by decide) (by decide) (by decide) ?_
  show hf_J M_X3_writeStrike 0 [(0, 2, x0), (1, 0, x1)] [] _
  refine hf_ild_n (pc := 0) 1 rfl rfl dX3_writeStrike_0 ?_
  refine hf_if_lt (pc := 1) 21 dX3_writeStrike_1 rfl ?_ ?_
  · refine hf_iconst (pc := 21) dX3_writeStrike_21 ?_
    exact hf_Jret (pc := 22) dX3_writeStrike_22 (fun _ => rfl)
  · refine hf_ild_n (pc := 4) 1 rfl rfl dX3_writeStrike_4 ?_
    refine hf_ald_n (pc := 5) 0 rfl rfl dX3_writeStrike_5 ?_
    refine hf_getf (pc := 6) fl_X3_9 dX3_writeStrike_6 (fun v6 => ?_)
    refine hf_icmp_ge (pc := 9) 21 dX3_writeStrike_9 rfl ?_ ?_
    · refine hf_iconst (pc := 21) dX3_writeStrike_21 ?_
      exact hf_Jret (pc := 22) dX3_writeStrike_22 (fun _ => rfl)
    · refine hf_ald_n (pc := 12) 0 rfl rfl dX3_writeStrike_12 ?_
      refine hf_getf (pc := 13) fl_X3_9 dX3_writeStrike_13 (fun v13 => ?_)
      refine hf_bipush (pc := 16) dX3_writeStrike_16 (by decide) ?_
      refine hf_icmp_lt (pc := 18) 23 dX3_writeStrike_18 rfl ?_ ?_
      · refine hf_ald_n (pc := 23) 0 rfl rfl dX3_writeStrike_23 ?_
        refine hf_ild_n (pc := 24) 1 rfl rfl dX3_writeStrike_24 ?_
        refine hf_cV (pc := 25) (N := M_X3_close) (ts := [0]) (vs := [x1]) (st := []) (fun r => [(0, r)]) (c_X3_close x0 x1) cal_X3_close ml_X3_38 ⟨hf_le rfl, hf_le rfl⟩ (hf_le rfl) ⟨rfl, rfl⟩ rfl dX3_writeStrike_25 (fun _ => rfl) (fun v25 => ?_)
        exact hf_Jret (pc := 28) dX3_writeStrike_28 (fun _ => rfl)
      · refine hf_iconst (pc := 21) dX3_writeStrike_21 ?_
        exact hf_Jret (pc := 22) dX3_writeStrike_22 (fun _ => rfl)
/-! NoteBook.isWrong(ILHighFall$Stair;I)Z -/
def M_X3_isWrong : hf_D := (yX3_isWrong, cX3_isWrong, 4, some .boolean, 1, 23)
def f_X3_isWrong (x0 x1 x2 x3 : Int) : hf_M Int :=
  hf_bd (hf_gf 3 6 x0) (fun v1 => hf_bd (hf_al 23 v1 x1) (fun v5 => hf_cz v5 (v5 = 0) (hf_ret 0) (hf_bd (hf_gf 3 5 x0) (fun v10 => hf_bd (hf_al 20 v10 x1) (fun v14 => hf_cb v14 (-1) (¬ v14 = (-1)) (hf_ret 0) (hf_bd (hf_gf 3 2 x0) (fun v21 => hf_bd (hf_al 20 v21 x1) (fun v25 => hf_bd (hf_gf 3 3 x0) (fun v27 => hf_bd (hf_al 20 v27 x1) (fun v31 => hf_bd (hf_ob 8 x2 (f_X8_breaks x2 v25 v31 x3)) (fun v33 => hf_bd (hf_gf 3 4 x0) (fun v37 => hf_bd (hf_al 23 v37 x1) (fun v41 => hf_cb v33 v41 (v33 = v41) (hf_ret 0) (hf_ret 1))))))))))))))
theorem cal_X3_isWrong : hf_cv M_X3_isWrong 3 3 := ⟨⟨ii_X3, kc_X3_isWrong, by decide, by decide, by decide +kernel⟩, ki_X3_isWrong, kv_X3_isWrong, _, rfl, rfl⟩
set_option maxRecDepth 20000 in
theorem c_X3_isWrong (x0 x1 x2 x3 : Int) : hf_Met M_X3_isWrong [2, 0, 2, 0] [x0, x1, x2, x3] (f_X3_isWrong x0 x1 x2 x3) := by
  refine hf_met rfl (by decide) (by decide) (by decide) ?_
  show hf_J M_X3_isWrong 0 [(0, 2, x0), (1, 0, x1), (2, 2, x2), (3, 0, x3)] [] _
  refine hf_ald_n (pc := 0) 0 rfl rfl dX3_isWrong_0 ?_
  refine hf_getf (pc := 1) fl_X3_32 dX3_isWrong_1 (fun v1 => ?_)
  refine hf_ild_n (pc := 4) 1 rfl rfl dX3_isWrong_4 ?_
  refine hf_zald (pc := 5) dX3_isWrong_5 (fun v5 => ?_)
  refine hf_if_eq (pc := 6) 49 dX3_isWrong_6 rfl ?_ ?_
  · refine hf_iconst (pc := 49) dX3_isWrong_49 ?_
    exact hf_Jret (pc := 50) (r := 0) ⟨dX3_isWrong_50, Or.inl rfl⟩ (fun _ => rfl)
  · refine hf_ald_n (pc := 9) 0 rfl rfl dX3_isWrong_9 ?_
    refine hf_getf (pc := 10) fl_X3_29 dX3_isWrong_10 (fun v10 => ?_)
    refine hf_ild_n (pc := 13) 1 rfl rfl dX3_isWrong_13 ?_
    refine hf_iald (pc := 14) dX3_isWrong_14 (fun v14 => ?_)
    refine hf_iconst (pc := 15) dX3_isWrong_15 ?_
    refine hf_icmp_ne (pc := 16) 49 dX3_isWrong_16 rfl ?_ ?_
    · refine hf_iconst (pc := 49) dX3_isWrong_49 ?_
      exact hf_Jret (pc := 50) (r := 0) ⟨dX3_isWrong_50, Or.inl rfl⟩ (fun _ => rfl)
    · refine hf_ald_n (pc := 19) 2 rfl rfl dX3_isWrong_19 ?_
      refine hf_ald_n (pc := 20) 0 rfl rfl dX3_isWrong_20 ?_
      refine hf_getf (pc := 21) fl_X3_19 dX3_isWrong_21 (fun v21 => ?_)
      refine hf_ild_n (pc := 24) 1 rfl rfl dX3_isWrong_24 ?_
      refine hf_iald (pc := 25) dX3_isWrong_25 (fun v25 => ?_)
      refine hf_ald_n (pc := 26) 0 rfl rfl dX3_isWrong_26 ?_
      refine hf_getf (pc := 27) fl_X3_22 dX3_isWrong_27 (fun v27 => ?_)
      refine hf_ild_n (pc := 30) 1 rfl rfl dX3_isWrong_30 ?_
      refine hf_iald (pc := 31) dX3_isWrong_31 (fun v31 => ?_)
      refine hf_ild_n (pc := 32) 3 rfl rfl dX3_isWrong_32 ?_
      refine hf_cV (pc := 33) (N := M_X8_breaks) (ts := [0, 0, 0]) (vs := [v25, v31, x3]) (st := []) (fun r => [(0, r)]) (c_X8_breaks x2 v25 v31 x3) cal_X8_breaks ml_X3_45 ⟨hf_le rfl, hf_le rfl⟩ (hf_le rfl) ⟨rfl, rfl⟩ rfl dX3_isWrong_33 (fun _ => rfl) (fun v33 => ?_)
      refine hf_ald_n (pc := 36) 0 rfl rfl dX3_isWrong_36 ?_
      refine hf_getf (pc := 37) fl_X3_25 dX3_isWrong_37 (fun v37 => ?_)
      refine hf_ild_n (pc := 40) 1 rfl rfl dX3_isWrong_40 ?_
      refine hf_zald (pc := 41) dX3_isWrong_41 (fun v41 => ?_)
      refine hf_icmp_eq (pc := 42) 49 dX3_isWrong_42 rfl ?_ ?_
      · refine hf_iconst (pc := 49) dX3_isWrong_49 ?_
        exact hf_Jret (pc := 50) (r := 0) ⟨dX3_isWrong_50, Or.inl rfl⟩ (fun _ => rfl)
      · refine hf_iconst (pc := 45) dX3_isWrong_45 ?_
        refine hf_goto (pc := 46) 50 dX3_isWrong_46 rfl ?_
        exact hf_Jret (pc := 50) (r := 1) ⟨dX3_isWrong_50, Or.inr rfl⟩ (fun _ => rfl)
/-! NoteBook.wrongAt(LHighFall$Stair;I)I -/
def M_X3_wrongAt : hf_D := (yX3_wrongAt, cX3_wrongAt, 5, some .int, 2, 46)
def f_X3_wrongAt_28 (rec_5 : Int × Int → hf_M Int) (x0 x1 x2 x3 x4 : Int) : hf_M Int :=
  hf_bd (hf_ret (x4 + 1)) (fun x4_28 => rec_5 (x3, x4_28))
def B_X3_wrongAt_5 (x0 x1 x2 : Int) (rec_5 : Int × Int → hf_M Int) (x3 x4 : Int) : hf_M Int :=
  hf_bd (hf_gf 3 0 x0) (fun v8 => hf_cb x4 v8 (v8 ≤ x4) (hf_ret x3) (hf_bd (hf_ob 3 x0 (f_X3_isWrong x0 x4 x1 x2)) (fun v19 => hf_cz v19 (v19 = 0) (f_X3_wrongAt_28 rec_5 x0 x1 x2 x3 x4) (hf_bd (hf_ret (x3 + 1)) (fun x3_25 => f_X3_wrongAt_28 rec_5 x0 x1 x2 x3_25 x4)))))
def f_X3_wrongAt_5 (x0 x1 x2 x3 x4 : Int) : hf_M Int := hf_fx (fun rec s => B_X3_wrongAt_5 x0 x1 x2 rec s.1 s.2) hf_N (x3, x4)
def f_X3_wrongAt (x0 x1 x2 : Int) : hf_M Int :=
  f_X3_wrongAt_5 x0 x1 x2 0 0
theorem cal_X3_wrongAt : hf_cv M_X3_wrongAt 3 2 := ⟨⟨ii_X3, kc_X3_wrongAt, by decide, by decide, by decide +kernel⟩, ki_X3_wrongAt, kv_X3_wrongAt, _, rfl, rfl⟩
set_option maxRecDepth 20000 in
theorem j_X3_wrongAt_28 (x0 x1 x2 x3 x4 : Int) (rec_5 : Int × Int → hf_M Int) (hrec_5 : ∀ s : Int × Int, hf_J M_X3_wrongAt 5 [(0, 2, x0), (1, 2, x1), (2, 0, x2), (3, 0, s.1), (4, 0, s.2)] [] (rec_5 s)) : hf_J M_X3_wrongAt 28 [(0, 2, x0), (1, 2, x1), (2, 0, x2), (3, 0, x3), (4, 0, x4)] [] (f_X3_wrongAt_28 rec_5 x0 x1 x2 x3 x4) := by
  refine hf_iincB (pc := 28) (fun y => [(4, 0, y), (0, 2, x0), (1, 2, x1), (2, 0, x2), (3, 0, x3)]) (q := 4) rfl (by decide) (fun _ => rfl) dX3_wrongAt_28 (fun x4_28 => ?_)
  refine hf_goto (pc := 31) 5 dX3_wrongAt_31 rfl ?_
  exact hf_sub [1, 2, 3, 4, 0] rfl (hrec_5 (x3, x4_28))
set_option maxRecDepth 20000 in
theorem jb_X3_wrongAt_5 (x0 x1 x2 : Int) (rec_5 : Int × Int → hf_M Int) (hrec_5 : ∀ s : Int × Int, hf_J M_X3_wrongAt 5 [(0, 2, x0), (1, 2, x1), (2, 0, x2), (3, 0, s.1), (4, 0, s.2)] [] (rec_5 s)) (x3 x4 : Int) : hf_J M_X3_wrongAt 5 [(0, 2, x0), (1, 2, x1), (2, 0, x2), (3, 0, x3), (4, 0, x4)] [] (B_X3_wrongAt_5 x0 x1 x2 rec_5 x3 x4) := by
  refine hf_ild (pc := 5) 4 rfl dX3_wrongAt_5 ?_
  refine hf_ald_n (pc := 7) 0 rfl rfl dX3_wrongAt_7 ?_
  refine hf_getf (pc := 8) fl_X3_9 dX3_wrongAt_8 (fun v8 => ?_)
  refine hf_icmp_ge (pc := 11) 34 dX3_wrongAt_11 rfl ?_ ?_
  · refine hf_ild_n (pc := 34) 3 rfl rfl dX3_wrongAt_34 ?_
    exact hf_Jret (pc := 35) dX3_wrongAt_35 (fun _ => rfl)
  · refine hf_ald_n (pc := 14) 0 rfl rfl dX3_wrongAt_14 ?_
    refine hf_ild (pc := 15) 4 rfl dX3_wrongAt_15 ?_
    refine hf_ald_n (pc := 17) 1 rfl rfl dX3_wrongAt_17 ?_
    refine hf_ild_n (pc := 18) 2 rfl rfl dX3_wrongAt_18 ?_
    refine hf_cV (pc := 19) (N := M_X3_isWrong) (ts := [0, 2, 0]) (vs := [x4, x1, x2]) (st := []) (fun r => [(0, r)]) (c_X3_isWrong x0 x4 x1 x2) cal_X3_isWrong ml_X3_51 ⟨hf_le rfl, hf_le rfl⟩ (hf_le rfl) ⟨rfl, rfl⟩ rfl dX3_wrongAt_19 (fun _ => rfl) (fun v19 => ?_)
    refine hf_if_eq (pc := 22) 28 dX3_wrongAt_22 rfl ?_ ?_
    · exact hf_sub [0, 1, 2, 3, 4] rfl (j_X3_wrongAt_28 x0 x1 x2 x3 x4 rec_5 hrec_5)
    · refine hf_iincB (pc := 25) (fun y => [(3, 0, y), (0, 2, x0), (1, 2, x1), (2, 0, x2), (4, 0, x4)]) (q := 3) rfl (by decide) (fun _ => rfl) dX3_wrongAt_25 (fun x3_25 => ?_)
      exact hf_sub [1, 2, 3, 0, 4] rfl (j_X3_wrongAt_28 x0 x1 x2 x3_25 x4 rec_5 hrec_5)
set_option maxRecDepth 20000 in
theorem j_X3_wrongAt_5 (x0 x1 x2 x3 x4 : Int) : hf_J M_X3_wrongAt 5 [(0, 2, x0), (1, 2, x1), (2, 0, x2), (3, 0, x3), (4, 0, x4)] [] (f_X3_wrongAt_5 x0 x1 x2 x3 x4) :=
  hf_Jfx (L := fun s => [(0, 2, x0), (1, 2, x1), (2, 0, x2), (3, 0, s.1), (4, 0, s.2)]) (fun rec hrec s => jb_X3_wrongAt_5 x0 x1 x2 rec hrec s.1 s.2) hf_N (x3, x4)
set_option maxRecDepth 20000 in
theorem c_X3_wrongAt (x0 x1 x2 : Int) : hf_Met M_X3_wrongAt [2, 2, 0] [x0, x1, x2] (f_X3_wrongAt x0 x1 x2) := by
  refine hf_met rfl (by decide) (by decide) (by decide) ?_
  show hf_J M_X3_wrongAt 0 [(0, 2, x0), (1, 2, x1), (2, 0, x2)] [] _
  refine hf_iconst (pc := 0) dX3_wrongAt_0 ?_
  refine hf_ist_n (pc := 1) (lv' := [(3, 0, 0), (0, 2, x0), (1, 2, x1), (2, 0, x2)]) rfl (by decide) rfl dX3_wrongAt_1 ?_
  refine hf_iconst (pc := 2) dX3_wrongAt_2 ?_
  refine hf_ist (pc := 3) (lv' := [(4, 0, 0), (3, 0, 0), (0, 2, x0), (1, 2, x1), (2, 0, x2)]) (by decide) rfl dX3_wrongAt_3 ?_
  exact hf_sub [2, 3, 4, 1, 0] rfl (j_X3_wrongAt_5 x0 x1 x2 0 0)
/-! NoteBook.leastDoubted(LHighFall$Stair;)I -/
def M_X3_leastDoubted : hf_D := (yX3_leastDoubted, cX3_leastDoubted, 6, some .int, 3, 70)
def f_X3_leastDoubted_42 (rec_12 : Int × Int × Int → hf_M Int) (x0 x1 x2 x3 x4 : Int) : hf_M Int :=
  hf_bd (hf_ret (x4 + 1)) (fun x4_42 => rec_12 (x2, x3, x4_42))
def B_X3_leastDoubted_12 (x0 x1 : Int) (rec_12 : Int × Int × Int → hf_M Int) (x2 x3 x4 : Int) : hf_M Int :=
  hf_bd (hf_gf 8 0 x1) (fun v15 => hf_cb x4 v15 (v15 < x4) (hf_ret x2) (hf_bd (hf_ob 3 x0 (f_X3_wrongAt x0 x1 x4)) (fun v25 => hf_cb v25 x3 (x3 ≤ v25) (f_X3_leastDoubted_42 rec_12 x0 x1 x2 x3 x4) (f_X3_leastDoubted_42 rec_12 x0 x1 x4 v25 x4))))
def f_X3_leastDoubted_12 (x0 x1 x2 x3 x4 : Int) : hf_M Int := hf_fx (fun rec s => B_X3_leastDoubted_12 x0 x1 rec s.1 s.2.1 s.2.2) hf_N (x2, x3, x4)
def f_X3_leastDoubted (x0 x1 : Int) : hf_M Int :=
  hf_bd (hf_ob 3 x0 (f_X3_wrongAt x0 x1 0)) (fun v5 => f_X3_leastDoubted_12 x0 x1 0 v5 1)
theorem cal_X3_leastDoubted : hf_cv M_X3_leastDoubted 3 1 := ⟨⟨ii_X3, kc_X3_leastDoubted, by decide, by decide, by decide +kernel⟩, ki_X3_leastDoubted, kv_X3_leastDoubted, _, rfl, rfl⟩
set_option maxRecDepth 20000 in
theorem j_X3_leastDoubted_42 (x0 x1 x2 x3 x4 : Int) (rec_12 : Int × Int × Int → hf_M Int) (hrec_12 : ∀ s : Int × Int × Int, hf_J M_X3_leastDoubted 12 [(0, 2, x0), (1, 2, x1), (2, 0, s.1), (3, 0, s.2.1), (4, 0, s.2.2)] [] (rec_12 s)) : hf_J M_X3_leastDoubted 42 [(0, 2, x0), (1, 2, x1), (2, 0, x2), (3, 0, x3), (4, 0, x4)] [] (f_X3_leastDoubted_42 rec_12 x0 x1 x2 x3 x4) := by
  refine hf_iincB (pc := 42) (fun y => [(4, 0, y), (0, 2, x0), (1, 2, x1), (2, 0, x2), (3, 0, x3)]) (q := 4) rfl (by decide) (fun _ => rfl) dX3_leastDoubted_42 (fun x4_42 => ?_)
  refine hf_goto (pc := 45) 12 dX3_leastDoubted_45 rfl ?_
  exact hf_sub [1, 2, 3, 4, 0] rfl (hrec_12 (x2, x3, x4_42))
set_option maxRecDepth 20000 in
theorem jb_X3_leastDoubted_12 (x0 x1 : Int) (rec_12 : Int × Int × Int → hf_M Int) (hrec_12 : ∀ s : Int × Int × Int, hf_J M_X3_leastDoubted 12 [(0, 2, x0), (1, 2, x1), (2, 0, s.1), (3, 0, s.2.1), (4, 0, s.2.2)] [] (rec_12 s)) (x2 x3 x4 : Int) : hf_J M_X3_leastDoubted 12 [(0, 2, x0), (1, 2, x1), (2, 0, x2), (3, 0, x3), (4, 0, x4)] [] (B_X3_leastDoubted_12 x0 x1 rec_12 x2 x3 x4) := by
  refine hf_ild (pc := 12) 4 rfl dX3_leastDoubted_12 ?_
  refine hf_ald_n (pc := 14) 1 rfl rfl dX3_leastDoubted_14 ?_
  refine hf_getf (pc := 15) fl_X3_59 dX3_leastDoubted_15 (fun v15 => ?_)
  refine hf_icmp_gt (pc := 18) 48 dX3_leastDoubted_18 rfl ?_ ?_
  · refine hf_ild_n (pc := 48) 2 rfl rfl dX3_leastDoubted_48 ?_
    exact hf_Jret (pc := 49) dX3_leastDoubted_49 (fun _ => rfl)
  · refine hf_ald_n (pc := 21) 0 rfl rfl dX3_leastDoubted_21 ?_
    refine hf_ald_n (pc := 22) 1 rfl rfl dX3_leastDoubted_22 ?_
    refine hf_ild (pc := 23) 4 rfl dX3_leastDoubted_23 ?_
    refine hf_cV (pc := 25) (N := M_X3_wrongAt) (ts := [2, 0]) (vs := [x1, x4]) (st := []) (fun r => [(0, r)]) (c_X3_wrongAt x0 x1 x4) cal_X3_wrongAt ml_X3_55 ⟨hf_le rfl, hf_le rfl⟩ (hf_le rfl) ⟨rfl, rfl⟩ rfl dX3_leastDoubted_25 (fun _ => rfl) (fun v25 => ?_)
    refine hf_ist (pc := 28) (lv' := [(5, 0, v25), (0, 2, x0), (1, 2, x1), (2, 0, x2), (3, 0, x3), (4, 0, x4)]) (by decide) rfl dX3_leastDoubted_28 ?_
    refine hf_ild (pc := 30) 0 rfl dX3_leastDoubted_30 ?_
    refine hf_ild_n (pc := 32) 4 rfl rfl dX3_leastDoubted_32 ?_
    refine hf_icmp_ge (pc := 33) 42 dX3_leastDoubted_33 rfl ?_ ?_
    · exact hf_sub [1, 2, 3, 4, 5] rfl (j_X3_leastDoubted_42 x0 x1 x2 x3 x4 rec_12 hrec_12)
    · refine hf_ild (pc := 36) 0 rfl dX3_leastDoubted_36 ?_
      refine hf_ist_n (pc := 38) (lv' := [(3, 0, v25), (5, 0, v25), (0, 2, x0), (1, 2, x1), (2, 0, x2), (4, 0, x4)]) rfl (by decide) rfl dX3_leastDoubted_38 ?_
      refine hf_ild (pc := 39) 5 rfl dX3_leastDoubted_39 ?_
      refine hf_ist_n (pc := 41) (lv' := [(2, 0, x4), (3, 0, v25), (5, 0, v25), (0, 2, x0), (1, 2, x1), (4, 0, x4)]) rfl (by decide) rfl dX3_leastDoubted_41 ?_
      exact hf_sub [3, 4, 0, 1, 5] rfl (j_X3_leastDoubted_42 x0 x1 x4 v25 x4 rec_12 hrec_12)
set_option maxRecDepth 20000 in
theorem j_X3_leastDoubted_12 (x0 x1 x2 x3 x4 : Int) : hf_J M_X3_leastDoubted 12 [(0, 2, x0), (1, 2, x1), (2, 0, x2), (3, 0, x3), (4, 0, x4)] [] (f_X3_leastDoubted_12 x0 x1 x2 x3 x4) :=
  hf_Jfx (L := fun s => [(0, 2, x0), (1, 2, x1), (2, 0, s.1), (3, 0, s.2.1), (4, 0, s.2.2)]) (fun rec hrec s => jb_X3_leastDoubted_12 x0 x1 rec hrec s.1 s.2.1 s.2.2) hf_N (x2, x3, x4)
set_option maxRecDepth 20000 in
theorem c_X3_leastDoubted (x0 x1 : Int) : hf_Met M_X3_leastDoubted [2, 2] [x0, x1] (f_X3_leastDoubted x0 x1) := by
  refine hf_met rfl (by decide) (by decide) (by decide) ?_
  show hf_J M_X3_leastDoubted 0 [(0, 2, x0), (1, 2, x1)] [] _
  refine hf_iconst (pc := 0) dX3_leastDoubted_0 ?_
  refine hf_ist_n (pc := 1) (lv' := [(2, 0, 0), (0, 2, x0), (1, 2, x1)]) rfl (by decide) rfl dX3_leastDoubted_1 ?_
  refine hf_ald_n (pc := 2) 1 rfl rfl dX3_leastDoubted_2 ?_
  refine hf_ald_n (pc := 3) 2 rfl rfl dX3_leastDoubted_3 ?_
  refine hf_iconst (pc := 4) dX3_leastDoubted_4 ?_
  refine hf_cV (pc := 5) (N := M_X3_wrongAt) (ts := [2, 0]) (vs := [x1, 0]) (st := []) (fun r => [(0, r)]) (c_X3_wrongAt x0 x1 0) cal_X3_wrongAt ml_X3_55 ⟨hf_le rfl, hf_le rfl⟩ (hf_le rfl) ⟨rfl, rfl⟩ rfl dX3_leastDoubted_5 (fun _ => rfl) (fun v5 => ?_)
  refine hf_ist_n (pc := 8) (lv' := [(3, 0, v5), (2, 0, 0), (0, 2, x0), (1, 2, x1)]) rfl (by decide) rfl dX3_leastDoubted_8 ?_
  refine hf_iconst (pc := 9) dX3_leastDoubted_9 ?_
  refine hf_ist (pc := 10) (lv' := [(4, 0, 1), (3, 0, v5), (2, 0, 0), (0, 2, x0), (1, 2, x1)]) (by decide) rfl dX3_leastDoubted_10 ?_
  exact hf_sub [3, 4, 2, 1, 0] rfl (j_X3_leastDoubted_12 x0 x1 0 v5 1)
/-! NoteBook.wrongBy(ILHighFall$Stair;I)I -/
def M_X3_wrongBy : hf_D := (yX3_wrongBy, cX3_wrongBy, 6, some .int, 2, 46)
def f_X3_wrongBy_40 (rec_6 : Int × Int → hf_M Int) (x0 x1 x2 x3 x4 x5 : Int) : hf_M Int :=
  hf_bd (hf_ret (x5 + 1)) (fun x5_40 => rec_6 (x4, x5_40))
def B_X3_wrongBy_6 (x0 x1 x2 x3 : Int) (rec_6 : Int × Int → hf_M Int) (x4 x5 : Int) : hf_M Int :=
  hf_bd (hf_gf 3 0 x0) (fun v9 => hf_cb x5 v9 (v9 ≤ x5) (hf_ret x4) (hf_bd (hf_gf 3 1 x0) (fun v16 => hf_bd (hf_al 20 v16 x5) (fun v21 => hf_cb v21 x1 (¬ v21 = x1) (f_X3_wrongBy_40 rec_6 x0 x1 x2 x3 x4 x5) (hf_bd (hf_ob 3 x0 (f_X3_isWrong x0 x5 x2 x3)) (fun v31 => hf_cz v31 (v31 = 0) (f_X3_wrongBy_40 rec_6 x0 x1 x2 x3 x4 x5) (hf_bd (hf_ret (x4 + 1)) (fun x4_37 => f_X3_wrongBy_40 rec_6 x0 x1 x2 x3 x4_37 x5))))))))
def f_X3_wrongBy_6 (x0 x1 x2 x3 x4 x5 : Int) : hf_M Int := hf_fx (fun rec s => B_X3_wrongBy_6 x0 x1 x2 x3 rec s.1 s.2) hf_N (x4, x5)
def f_X3_wrongBy (x0 x1 x2 x3 : Int) : hf_M Int :=
  f_X3_wrongBy_6 x0 x1 x2 x3 0 0
theorem cal_X3_wrongBy : hf_cv M_X3_wrongBy 3 3 := ⟨⟨ii_X3, kc_X3_wrongBy, by decide, by decide, by decide +kernel⟩, ki_X3_wrongBy, kv_X3_wrongBy, _, rfl, rfl⟩
set_option maxRecDepth 20000 in
theorem j_X3_wrongBy_40 (x0 x1 x2 x3 x4 x5 : Int) (rec_6 : Int × Int → hf_M Int) (hrec_6 : ∀ s : Int × Int, hf_J M_X3_wrongBy 6 [(0, 2, x0), (1, 0, x1), (2, 2, x2), (3, 0, x3), (4, 0, s.1), (5, 0, s.2)] [] (rec_6 s)) : hf_J M_X3_wrongBy 40 [(0, 2, x0), (1, 0, x1), (2, 2, x2), (3, 0, x3), (4, 0, x4), (5, 0, x5)] [] (f_X3_wrongBy_40 rec_6 x0 x1 x2 x3 x4 x5) := by
  refine hf_iincB (pc := 40) (fun y => [(5, 0, y), (0, 2, x0), (1, 0, x1), (2, 2, x2), (3, 0, x3), (4, 0, x4)]) (q := 5) rfl (by decide) (fun _ => rfl) dX3_wrongBy_40 (fun x5_40 => ?_)
  refine hf_goto (pc := 43) 6 dX3_wrongBy_43 rfl ?_
  exact hf_sub [1, 2, 3, 4, 5, 0] rfl (hrec_6 (x4, x5_40))
set_option maxRecDepth 20000 in
theorem jb_X3_wrongBy_6 (x0 x1 x2 x3 : Int) (rec_6 : Int × Int → hf_M Int) (hrec_6 : ∀ s : Int × Int, hf_J M_X3_wrongBy 6 [(0, 2, x0), (1, 0, x1), (2, 2, x2), (3, 0, x3), (4, 0, s.1), (5, 0, s.2)] [] (rec_6 s)) (x4 x5 : Int) : hf_J M_X3_wrongBy 6 [(0, 2, x0), (1, 0, x1), (2, 2, x2), (3, 0, x3), (4, 0, x4), (5, 0, x5)] [] (B_X3_wrongBy_6 x0 x1 x2 x3 rec_6 x4 x5) := by
  refine hf_ild (pc := 6) 5 rfl dX3_wrongBy_6 ?_
  refine hf_ald_n (pc := 8) 0 rfl rfl dX3_wrongBy_8 ?_
  refine hf_getf (pc := 9) fl_X3_9 dX3_wrongBy_9 (fun v9 => ?_)
  refine hf_icmp_ge (pc := 12) 46 dX3_wrongBy_12 rfl ?_ ?_
  · refine hf_ild (pc := 46) 4 rfl dX3_wrongBy_46 ?_
    exact hf_Jret (pc := 48) dX3_wrongBy_48 (fun _ => rfl)
  · refine hf_ald_n (pc := 15) 0 rfl rfl dX3_wrongBy_15 ?_
    refine hf_getf (pc := 16) fl_X3_15 dX3_wrongBy_16 (fun v16 => ?_)
    refine hf_ild (pc := 19) 5 rfl dX3_wrongBy_19 ?_
    refine hf_iald (pc := 21) dX3_wrongBy_21 (fun v21 => ?_)
    refine hf_ild_n (pc := 22) 1 rfl rfl dX3_wrongBy_22 ?_
    refine hf_icmp_ne (pc := 23) 40 dX3_wrongBy_23 rfl ?_ ?_
    · exact hf_sub [0, 1, 2, 3, 4, 5] rfl (j_X3_wrongBy_40 x0 x1 x2 x3 x4 x5 rec_6 hrec_6)
    · refine hf_ald_n (pc := 26) 0 rfl rfl dX3_wrongBy_26 ?_
      refine hf_ild (pc := 27) 5 rfl dX3_wrongBy_27 ?_
      refine hf_ald_n (pc := 29) 2 rfl rfl dX3_wrongBy_29 ?_
      refine hf_ild_n (pc := 30) 3 rfl rfl dX3_wrongBy_30 ?_
      refine hf_cV (pc := 31) (N := M_X3_isWrong) (ts := [0, 2, 0]) (vs := [x5, x2, x3]) (st := []) (fun r => [(0, r)]) (c_X3_isWrong x0 x5 x2 x3) cal_X3_isWrong ml_X3_51 ⟨hf_le rfl, hf_le rfl⟩ (hf_le rfl) ⟨rfl, rfl⟩ rfl dX3_wrongBy_31 (fun _ => rfl) (fun v31 => ?_)
      refine hf_if_eq (pc := 34) 40 dX3_wrongBy_34 rfl ?_ ?_
      · exact hf_sub [0, 1, 2, 3, 4, 5] rfl (j_X3_wrongBy_40 x0 x1 x2 x3 x4 x5 rec_6 hrec_6)
      · refine hf_iincB (pc := 37) (fun y => [(4, 0, y), (0, 2, x0), (1, 0, x1), (2, 2, x2), (3, 0, x3), (5, 0, x5)]) (q := 4) rfl (by decide) (fun _ => rfl) dX3_wrongBy_37 (fun x4_37 => ?_)
        exact hf_sub [1, 2, 3, 4, 0, 5] rfl (j_X3_wrongBy_40 x0 x1 x2 x3 x4_37 x5 rec_6 hrec_6)
set_option maxRecDepth 20000 in
theorem j_X3_wrongBy_6 (x0 x1 x2 x3 x4 x5 : Int) : hf_J M_X3_wrongBy 6 [(0, 2, x0), (1, 0, x1), (2, 2, x2), (3, 0, x3), (4, 0, x4), (5, 0, x5)] [] (f_X3_wrongBy_6 x0 x1 x2 x3 x4 x5) :=
  hf_Jfx (L := fun s => [(0, 2, x0), (1, 0, x1), (2, 2, x2), (3, 0, x3), (4, 0, s.1), (5, 0, s.2)]) (fun rec hrec s => jb_X3_wrongBy_6 x0 x1 x2 x3 rec hrec s.1 s.2) hf_N (x4, x5)
set_option maxRecDepth 20000 in
theorem c_X3_wrongBy (x0 x1 x2 x3 : Int) : hf_Met M_X3_wrongBy [2, 0, 2, 0] [x0, x1, x2, x3] (f_X3_wrongBy x0 x1 x2 x3) := by
  refine hf_met rfl (by decide) (by decide) (by decide) ?_
  show hf_J M_X3_wrongBy 0 [(0, 2, x0), (1, 0, x1), (2, 2, x2), (3, 0, x3)] [] _
  refine hf_iconst (pc := 0) dX3_wrongBy_0 ?_
  refine hf_ist (pc := 1) (lv' := [(4, 0, 0), (0, 2, x0), (1, 0, x1), (2, 2, x2), (3, 0, x3)]) (by decide) rfl dX3_wrongBy_1 ?_
  refine hf_iconst (pc := 3) dX3_wrongBy_3 ?_
  refine hf_ist (pc := 4) (lv' := [(5, 0, 0), (4, 0, 0), (0, 2, x0), (1, 0, x1), (2, 2, x2), (3, 0, x3)]) (by decide) rfl dX3_wrongBy_4 ?_
  exact hf_sub [2, 3, 4, 5, 1, 0] rfl (j_X3_wrongBy_6 x0 x1 x2 x3 0 0)
/-! NoteBook.differenceBy(ILHighFall$Stair;I)I -/
def M_X3_differenceBy : hf_D := (yX3_differenceBy, cX3_differenceBy, 6, some .int, 1, 24)
def f_X3_differenceBy_59 (rec_6 : Int × Int → hf_M Int) (x0 x1 x2 x3 x4 x5 : Int) : hf_M Int :=
  hf_bd (hf_ret (x5 + 1)) (fun x5_59 => rec_6 (x4, x5_59))
def f_X3_differenceBy_56 (rec_6 : Int × Int → hf_M Int) (x0 x1 x2 x3 x5 s0 s1 : Int) : hf_M Int :=
  hf_bd (hf_ret (s0 + s1)) (fun x4_57 => f_X3_differenceBy_59 rec_6 x0 x1 x2 x3 x4_57 x5)
def B_X3_differenceBy_6 (x0 x1 x2 x3 : Int) (rec_6 : Int × Int → hf_M Int) (x4 x5 : Int) : hf_M Int :=
  hf_bd (hf_gf 8 0 x2) (fun v9 => hf_cb x5 v9 (v9 < x5) (hf_ck (hf_inI x4) (hf_bd (hf_ret (if 0 ≤ x4 then x4 else -x4)) (fun v67 => hf_ret v67))) (hf_bd (hf_gf 3 7 x0) (fun v16 => hf_bd (hf_al 23 v16 x5) (fun v21 => hf_cz v21 (v21 = 0) (f_X3_differenceBy_59 rec_6 x0 x1 x2 x3 x4 x5) (hf_bd (hf_ob 8 x2 (f_X8_breaks x2 x3 x1 x5)) (fun v32 => hf_cz v32 (v32 = 0) (hf_bd (hf_gf 8 6 x2) (fun v49 => hf_bd (hf_al 20 v49 x5) (fun v54 => f_X3_differenceBy_56 rec_6 x0 x1 x2 x3 x5 x4 (-v54)))) (hf_bd (hf_gf 8 6 x2) (fun v39 => hf_bd (hf_al 20 v39 x5) (fun v44 => f_X3_differenceBy_56 rec_6 x0 x1 x2 x3 x5 x4 v44)))))))))
def f_X3_differenceBy_6 (x0 x1 x2 x3 x4 x5 : Int) : hf_M Int := hf_fx (fun rec s => B_X3_differenceBy_6 x0 x1 x2 x3 rec s.1 s.2) hf_N (x4, x5)
def f_X3_differenceBy (x0 x1 x2 x3 : Int) : hf_M Int :=
  f_X3_differenceBy_6 x0 x1 x2 x3 0 0
theorem cal_X3_differenceBy : hf_cv M_X3_differenceBy 3 3 := ⟨⟨ii_X3, kc_X3_differenceBy, by decide, by decide, by decide +kernel⟩, ki_X3_differenceBy, kv_X3_differenceBy, _, rfl, rfl⟩
set_option maxRecDepth 20000 in
theorem j_X3_differenceBy_59 (x0 x1 x2 x3 x4 x5 : Int) (rec_6 : Int × Int → hf_M Int) (hrec_6 : ∀ s : Int × Int, hf_J M_X3_differenceBy 6 [(0, 2, x0), (1, 0, x1), (2, 2, x2), (3, 0, x3), (4, 0, s.1), (5, 0, s.2)] [] (rec_6 s)) : hf_J M_X3_differenceBy 59 [(0, 2, x0), (1, 0, x1), (2, 2, x2), (3, 0, x3), (4, 0, x4), (5, 0, x5)] [] (f_X3_differenceBy_59 rec_6 x0 x1 x2 x3 x4 x5) := by
  refine hf_iincB (pc := 59) (fun y => [(5, 0, y), (0, 2, x0), (1, 0, x1), (2, 2, x2), (3, 0, x3), (4, 0, x4)]) (q := 5) rfl (by decide) (fun _ => rfl) dX3_differenceBy_59 (fun x5_59 => ?_)
  refine hf_goto (pc := 62) 6 dX3_differenceBy_62 rfl ?_
  exact hf_sub [1, 2, 3, 4, 5, 0] rfl (hrec_6 (x4, x5_59))
set_option maxRecDepth 20000 in
theorem j_X3_differenceBy_56 (x0 x1 x2 x3 x5 s0 s1 : Int) (rec_6 : Int × Int → hf_M Int) (hrec_6 : ∀ s : Int × Int, hf_J M_X3_differenceBy 6 [(0, 2, x0), (1, 0, x1), (2, 2, x2), (3, 0, x3), (4, 0, s.1), (5, 0, s.2)] [] (rec_6 s)) : hf_J M_X3_differenceBy 56 [(0, 2, x0), (1, 0, x1), (2, 2, x2), (3, 0, x3), (5, 0, x5)] [(0, s1), (0, s0)] (f_X3_differenceBy_56 rec_6 x0 x1 x2 x3 x5 s0 s1) := by
  refine hf_iadd (pc := 56) dX3_differenceBy_56 ?_
  refine hf_istB (pc := 57) (fun y => [(4, 0, y), (0, 2, x0), (1, 0, x1), (2, 2, x2), (3, 0, x3), (5, 0, x5)]) (by decide) (fun _ => rfl) dX3_differenceBy_57 (fun x4_57 => ?_)
  exact hf_sub [1, 2, 3, 4, 0, 5] rfl (j_X3_differenceBy_59 x0 x1 x2 x3 x4_57 x5 rec_6 hrec_6)
set_option maxRecDepth 20000 in
theorem jb_X3_differenceBy_6 (x0 x1 x2 x3 : Int) (rec_6 : Int × Int → hf_M Int) (hrec_6 : ∀ s : Int × Int, hf_J M_X3_differenceBy 6 [(0, 2, x0), (1, 0, x1), (2, 2, x2), (3, 0, x3), (4, 0, s.1), (5, 0, s.2)] [] (rec_6 s)) (x4 x5 : Int) : hf_J M_X3_differenceBy 6 [(0, 2, x0), (1, 0, x1), (2, 2, x2), (3, 0, x3), (4, 0, x4), (5, 0, x5)] [] (B_X3_differenceBy_6 x0 x1 x2 x3 rec_6 x4 x5) := by
  refine hf_ild (pc := 6) 5 rfl dX3_differenceBy_6 ?_
  refine hf_ald_n (pc := 8) 2 rfl rfl dX3_differenceBy_8 ?_
  refine hf_getf (pc := 9) fl_X3_59 dX3_differenceBy_9 (fun v9 => ?_)
  refine hf_icmp_gt (pc := 12) 65 dX3_differenceBy_12 rfl ?_ ?_
  · refine hf_ild (pc := 65) 4 rfl dX3_differenceBy_65 ?_
    refine hf_mabs (pc := 67) ml_X3_68 ⟨hf_le rfl, hf_le rfl⟩ dX3_differenceBy_67 (fun v67 => ?_)
    exact hf_Jret (pc := 70) dX3_differenceBy_70 (fun _ => rfl)
  · refine hf_ald_n (pc := 15) 0 rfl rfl dX3_differenceBy_15 ?_
    refine hf_getf (pc := 16) fl_X3_35 dX3_differenceBy_16 (fun v16 => ?_)
    refine hf_ild (pc := 19) 5 rfl dX3_differenceBy_19 ?_
    refine hf_zald (pc := 21) dX3_differenceBy_21 (fun v21 => ?_)
    refine hf_if_eq (pc := 22) 59 dX3_differenceBy_22 rfl ?_ ?_
    · exact hf_sub [0, 1, 2, 3, 4, 5] rfl (j_X3_differenceBy_59 x0 x1 x2 x3 x4 x5 rec_6 hrec_6)
    · refine hf_ild (pc := 25) 4 rfl dX3_differenceBy_25 ?_
      refine hf_ald_n (pc := 27) 2 rfl rfl dX3_differenceBy_27 ?_
      refine hf_ild_n (pc := 28) 3 rfl rfl dX3_differenceBy_28 ?_
      refine hf_ild_n (pc := 29) 1 rfl rfl dX3_differenceBy_29 ?_
      refine hf_ild (pc := 30) 5 rfl dX3_differenceBy_30 ?_
      refine hf_cV (pc := 32) (N := M_X8_breaks) (ts := [0, 0, 0]) (vs := [x3, x1, x5]) (st := [(0, x4)]) (fun r => [(0, r), (0, x4)]) (c_X8_breaks x2 x3 x1 x5) cal_X8_breaks ml_X3_45 ⟨hf_le rfl, hf_le rfl⟩ (hf_le rfl) ⟨rfl, rfl⟩ rfl dX3_differenceBy_32 (fun _ => rfl) (fun v32 => ?_)
      refine hf_if_eq (pc := 35) 48 dX3_differenceBy_35 rfl ?_ ?_
      · refine hf_ald_n (pc := 48) 2 rfl rfl dX3_differenceBy_48 ?_
        refine hf_getf (pc := 49) fl_X3_65 dX3_differenceBy_49 (fun v49 => ?_)
        refine hf_ild (pc := 52) 5 rfl dX3_differenceBy_52 ?_
        refine hf_iald (pc := 54) dX3_differenceBy_54 (fun v54 => ?_)
        refine hf_ineg (pc := 55) dX3_differenceBy_55 ?_
        exact hf_sub [0, 1, 2, 3, 5] rfl (j_X3_differenceBy_56 x0 x1 x2 x3 x5 x4 (-v54) rec_6 hrec_6)
      · refine hf_ald_n (pc := 38) 2 rfl rfl dX3_differenceBy_38 ?_
        refine hf_getf (pc := 39) fl_X3_65 dX3_differenceBy_39 (fun v39 => ?_)
        refine hf_ild (pc := 42) 5 rfl dX3_differenceBy_42 ?_
        refine hf_iald (pc := 44) dX3_differenceBy_44 (fun v44 => ?_)
        refine hf_goto (pc := 45) 56 dX3_differenceBy_45 rfl ?_
        exact hf_sub [0, 1, 2, 3, 5] rfl (j_X3_differenceBy_56 x0 x1 x2 x3 x5 x4 v44 rec_6 hrec_6)
set_option maxRecDepth 20000 in
theorem j_X3_differenceBy_6 (x0 x1 x2 x3 x4 x5 : Int) : hf_J M_X3_differenceBy 6 [(0, 2, x0), (1, 0, x1), (2, 2, x2), (3, 0, x3), (4, 0, x4), (5, 0, x5)] [] (f_X3_differenceBy_6 x0 x1 x2 x3 x4 x5) :=
  hf_Jfx (L := fun s => [(0, 2, x0), (1, 0, x1), (2, 2, x2), (3, 0, x3), (4, 0, s.1), (5, 0, s.2)]) (fun rec hrec s => jb_X3_differenceBy_6 x0 x1 x2 x3 rec hrec s.1 s.2) hf_N (x4, x5)
set_option maxRecDepth 20000 in
theorem c_X3_differenceBy (x0 x1 x2 x3 : Int) : hf_Met M_X3_differenceBy [2, 0, 2, 0] [x0, x1, x2, x3] (f_X3_differenceBy x0 x1 x2 x3) := by
  refine hf_met rfl (by decide) (by decide) (by decide) ?_
  show hf_J M_X3_differenceBy 0 [(0, 2, x0), (1, 0, x1), (2, 2, x2), (3, 0, x3)] [] _
  refine hf_iconst (pc := 0) dX3_differenceBy_0 ?_
  refine hf_ist (pc := 1) (lv' := [(4, 0, 0), (0, 2, x0), (1, 0, x1), (2, 2, x2), (3, 0, x3)]) (by decide) rfl dX3_differenceBy_1 ?_
  refine hf_iconst (pc := 3) dX3_differenceBy_3 ?_
  refine hf_ist (pc := 4) (lv' := [(5, 0, 0), (4, 0, 0), (0, 2, x0), (1, 0, x1), (2, 2, x2), (3, 0, x3)]) (by decide) rfl dX3_differenceBy_4 ?_
  exact hf_sub [2, 3, 4, 5, 1, 0] rfl (j_X3_differenceBy_6 x0 x1 x2 x3 0 0)
/-! NoteBook.partingStep(LHighFall$Stair;I)I -/
def M_X3_partingStep : hf_D := (yX3_partingStep, cX3_partingStep, 8, some .int, 3, 70)
def f_X3_partingStep_55 (rec_5 : Int × Int → hf_M Int) (x0 x1 x2 x4 s0 : Int) : hf_M Int :=
  hf_bd (hf_ret (x4 + 1)) (fun x4_56 => rec_5 (s0, x4_56))
def f_X3_partingStep_117 (rec_83 : Int × Int × Int → hf_M Int) (x0 x1 x2 x4 x5 x6 : Int) : hf_M Int :=
  hf_bd (hf_ret (x6 + 1)) (fun x6_117 => rec_83 (x4, x5, x6_117))
def B_X3_partingStep_83 (x0 x1 x2 : Int) (rec_83 : Int × Int × Int → hf_M Int) (x4 x5 x6 : Int) : hf_M Int :=
  hf_bd (hf_gf 8 0 x1) (fun v86 => hf_cb x6 v86 (v86 < x6) (hf_ret x4) (hf_bd (hf_ob 3 x0 (f_X3_differenceBy x0 x6 x1 x2)) (fun v97 => hf_cb v97 x5 (x5 ≤ v97) (f_X3_partingStep_117 rec_83 x0 x1 x2 x4 x5 x6) (f_X3_partingStep_117 rec_83 x0 x1 x2 x6 v97 x6))))
def f_X3_partingStep_83 (x0 x1 x2 x4 x5 x6 : Int) : hf_M Int := hf_fx (fun rec s => B_X3_partingStep_83 x0 x1 x2 rec s.1 s.2.1 s.2.2) hf_N (x4, x5, x6)
def B_X3_partingStep_5 (x0 x1 x2 : Int) (rec_5 : Int × Int → hf_M Int) (x3 x4 : Int) : hf_M Int :=
  hf_bd (hf_gf 8 0 x1) (fun v8 => hf_cb x4 v8 (v8 < x4) (hf_cz x3 (¬ x3 = 0) (hf_bd (hf_ob 3 x0 (f_X3_differenceBy x0 1 x1 x2)) (fun v75 => f_X3_partingStep_83 x0 x1 x2 1 v75 2)) (hf_ret (-1))) (hf_bd (hf_gf 3 7 x0) (fun v15 => hf_bd (hf_ob 3 x0 (f_X3_wrongAt x0 x1 x4)) (fun v24 => hf_ck (hf_inI v24) (hf_bd (hf_ret (if ¬ v24 = 0 then 0 else 1)) (fun w35 => hf_ck (w35 = 0 ∨ w35 = 1) (hf_bd (hf_as 23 v15 x4 w35) (fun _ => hf_cz x3 (¬ x3 = 0) (f_X3_partingStep_55 rec_5 x0 x1 x2 x4 1) (hf_bd (hf_gf 3 7 x0) (fun v41 => hf_bd (hf_al 23 v41 x4) (fun v46 => hf_cz v46 (v46 = 0) (f_X3_partingStep_55 rec_5 x0 x1 x2 x4 0) (f_X3_partingStep_55 rec_5 x0 x1 x2 x4 1))))))))))))
def f_X3_partingStep_5 (x0 x1 x2 x3 x4 : Int) : hf_M Int := hf_fx (fun rec s => B_X3_partingStep_5 x0 x1 x2 rec s.1 s.2) hf_N (x3, x4)
def f_X3_partingStep (x0 x1 x2 : Int) : hf_M Int :=
  f_X3_partingStep_5 x0 x1 x2 0 0
theorem cal_X3_partingStep : hf_cv M_X3_partingStep 3 2 := ⟨⟨ii_X3, kc_X3_partingStep, by decide, by decide, by decide +kernel⟩, ki_X3_partingStep, kv_X3_partingStep, _, rfl, rfl⟩
set_option maxRecDepth 20000 in
theorem j_X3_partingStep_55 (x0 x1 x2 x4 s0 : Int) (rec_5 : Int × Int → hf_M Int) (hrec_5 : ∀ s : Int × Int, hf_J M_X3_partingStep 5 [(0, 2, x0), (1, 2, x1), (2, 0, x2), (3, 0, s.1), (4, 0, s.2)] [] (rec_5 s)) : hf_J M_X3_partingStep 55 [(0, 2, x0), (1, 2, x1), (2, 0, x2), (4, 0, x4)] [(0, s0)] (f_X3_partingStep_55 rec_5 x0 x1 x2 x4 s0) := by
  refine hf_ist_n (pc := 55) (lv' := [(3, 0, s0), (0, 2, x0), (1, 2, x1), (2, 0, x2), (4, 0, x4)]) rfl (by decide) rfl dX3_partingStep_55 ?_
  refine hf_iincB (pc := 56) (fun y => [(4, 0, y), (3, 0, s0), (0, 2, x0), (1, 2, x1), (2, 0, x2)]) (q := 4) rfl (by decide) (fun _ => rfl) dX3_partingStep_56 (fun x4_56 => ?_)
  refine hf_goto (pc := 59) 5 dX3_partingStep_59 rfl ?_
  exact hf_sub [2, 3, 4, 1, 0] rfl (hrec_5 (s0, x4_56))
set_option maxRecDepth 20000 in
theorem j_X3_partingStep_117 (x0 x1 x2 x4 x5 x6 : Int) (rec_83 : Int × Int × Int → hf_M Int) (hrec_83 : ∀ s : Int × Int × Int, hf_J M_X3_partingStep 83 [(0, 2, x0), (1, 2, x1), (2, 0, x2), (4, 0, s.1), (5, 0, s.2.1), (6, 0, s.2.2)] [] (rec_83 s)) : hf_J M_X3_partingStep 117 [(0, 2, x0), (1, 2, x1), (2, 0, x2), (4, 0, x4), (5, 0, x5), (6, 0, x6)] [] (f_X3_partingStep_117 rec_83 x0 x1 x2 x4 x5 x6) := by
  refine hf_iincB (pc := 117) (fun y => [(6, 0, y), (0, 2, x0), (1, 2, x1), (2, 0, x2), (4, 0, x4), (5, 0, x5)]) (q := 5) rfl (by decide) (fun _ => rfl) dX3_partingStep_117 (fun x6_117 => ?_)
  refine hf_goto (pc := 120) 83 dX3_partingStep_120 rfl ?_
  exact hf_sub [1, 2, 3, 4, 5, 0] rfl (hrec_83 (x4, x5, x6_117))
set_option maxRecDepth 20000 in
theorem jb_X3_partingStep_83 (x0 x1 x2 : Int) (rec_83 : Int × Int × Int → hf_M Int) (hrec_83 : ∀ s : Int × Int × Int, hf_J M_X3_partingStep 83 [(0, 2, x0), (1, 2, x1), (2, 0, x2), (4, 0, s.1), (5, 0, s.2.1), (6, 0, s.2.2)] [] (rec_83 s)) (x4 x5 x6 : Int) : hf_J M_X3_partingStep 83 [(0, 2, x0), (1, 2, x1), (2, 0, x2), (4, 0, x4), (5, 0, x5), (6, 0, x6)] [] (B_X3_partingStep_83 x0 x1 x2 rec_83 x4 x5 x6) := by
  refine hf_ild (pc := 83) 5 rfl dX3_partingStep_83 ?_
  refine hf_ald_n (pc := 85) 1 rfl rfl dX3_partingStep_85 ?_
  refine hf_getf (pc := 86) fl_X3_59 dX3_partingStep_86 (fun v86 => ?_)
  refine hf_icmp_gt (pc := 89) 123 dX3_partingStep_89 rfl ?_ ?_
  · refine hf_ild (pc := 123) 3 rfl dX3_partingStep_123 ?_
    exact hf_Jret (pc := 125) dX3_partingStep_125 (fun _ => rfl)
  · refine hf_ald_n (pc := 92) 0 rfl rfl dX3_partingStep_92 ?_
    refine hf_ild (pc := 93) 5 rfl dX3_partingStep_93 ?_
    refine hf_ald_n (pc := 95) 1 rfl rfl dX3_partingStep_95 ?_
    refine hf_ild_n (pc := 96) 2 rfl rfl dX3_partingStep_96 ?_
    refine hf_cV (pc := 97) (N := M_X3_differenceBy) (ts := [0, 2, 0]) (vs := [x6, x1, x2]) (st := []) (fun r => [(0, r)]) (c_X3_differenceBy x0 x6 x1 x2) cal_X3_differenceBy ml_X3_61 ⟨hf_le rfl, hf_le rfl⟩ (hf_le rfl) ⟨rfl, rfl⟩ rfl dX3_partingStep_97 (fun _ => rfl) (fun v97 => ?_)
    refine hf_ist (pc := 100) (lv' := [(7, 0, v97), (0, 2, x0), (1, 2, x1), (2, 0, x2), (4, 0, x4), (5, 0, x5), (6, 0, x6)]) (by decide) rfl dX3_partingStep_100 ?_
    refine hf_ild (pc := 102) 0 rfl dX3_partingStep_102 ?_
    refine hf_ild (pc := 104) 5 rfl dX3_partingStep_104 ?_
    refine hf_icmp_ge (pc := 106) 117 dX3_partingStep_106 rfl ?_ ?_
    · exact hf_sub [1, 2, 3, 4, 5, 6] rfl (j_X3_partingStep_117 x0 x1 x2 x4 x5 x6 rec_83 hrec_83)
    · refine hf_ild (pc := 109) 0 rfl dX3_partingStep_109 ?_
      refine hf_ist (pc := 111) (lv' := [(5, 0, v97), (7, 0, v97), (0, 2, x0), (1, 2, x1), (2, 0, x2), (4, 0, x4), (6, 0, x6)]) (by decide) rfl dX3_partingStep_111 ?_
      refine hf_ild (pc := 113) 6 rfl dX3_partingStep_113 ?_
      refine hf_ist (pc := 115) (lv' := [(4, 0, x6), (5, 0, v97), (7, 0, v97), (0, 2, x0), (1, 2, x1), (2, 0, x2), (6, 0, x6)]) (by decide) rfl dX3_partingStep_115 ?_
      exact hf_sub [3, 4, 5, 0, 1, 6] rfl (j_X3_partingStep_117 x0 x1 x2 x6 v97 x6 rec_83 hrec_83)
set_option maxRecDepth 20000 in
theorem j_X3_partingStep_83 (x0 x1 x2 x4 x5 x6 : Int) : hf_J M_X3_partingStep 83 [(0, 2, x0), (1, 2, x1), (2, 0, x2), (4, 0, x4), (5, 0, x5), (6, 0, x6)] [] (f_X3_partingStep_83 x0 x1 x2 x4 x5 x6) :=
  hf_Jfx (L := fun s => [(0, 2, x0), (1, 2, x1), (2, 0, x2), (4, 0, s.1), (5, 0, s.2.1), (6, 0, s.2.2)]) (fun rec hrec s => jb_X3_partingStep_83 x0 x1 x2 rec hrec s.1 s.2.1 s.2.2) hf_N (x4, x5, x6)
set_option maxRecDepth 20000 in
theorem jb_X3_partingStep_5 (x0 x1 x2 : Int) (rec_5 : Int × Int → hf_M Int) (hrec_5 : ∀ s : Int × Int, hf_J M_X3_partingStep 5 [(0, 2, x0), (1, 2, x1), (2, 0, x2), (3, 0, s.1), (4, 0, s.2)] [] (rec_5 s)) (x3 x4 : Int) : hf_J M_X3_partingStep 5 [(0, 2, x0), (1, 2, x1), (2, 0, x2), (3, 0, x3), (4, 0, x4)] [] (B_X3_partingStep_5 x0 x1 x2 rec_5 x3 x4) := by
  refine hf_ild (pc := 5) 4 rfl dX3_partingStep_5 ?_
  refine hf_ald_n (pc := 7) 1 rfl rfl dX3_partingStep_7 ?_
  refine hf_getf (pc := 8) fl_X3_59 dX3_partingStep_8 (fun v8 => ?_)
  refine hf_icmp_gt (pc := 11) 62 dX3_partingStep_11 rfl ?_ ?_
  · refine hf_ild_n (pc := 62) 3 rfl rfl dX3_partingStep_62 ?_
    refine hf_if_ne (pc := 63) 68 dX3_partingStep_63 rfl ?_ ?_
    · refine hf_iconst (pc := 68) dX3_partingStep_68 ?_
      refine hf_ist (pc := 69) (lv' := [(4, 0, 1), (0, 2, x0), (1, 2, x1), (2, 0, x2), (3, 0, x3)]) (by decide) rfl dX3_partingStep_69 ?_
      refine hf_ald_n (pc := 71) 1 rfl rfl dX3_partingStep_71 ?_
      refine hf_iconst (pc := 72) dX3_partingStep_72 ?_
      refine hf_ald_n (pc := 73) 2 rfl rfl dX3_partingStep_73 ?_
      refine hf_ild_n (pc := 74) 3 rfl rfl dX3_partingStep_74 ?_
      refine hf_cV (pc := 75) (N := M_X3_differenceBy) (ts := [0, 2, 0]) (vs := [1, x1, x2]) (st := []) (fun r => [(0, r)]) (c_X3_differenceBy x0 1 x1 x2) cal_X3_differenceBy ml_X3_61 ⟨hf_le rfl, hf_le rfl⟩ (hf_le rfl) ⟨rfl, rfl⟩ rfl dX3_partingStep_75 (fun _ => rfl) (fun v75 => ?_)
      refine hf_ist (pc := 78) (lv' := [(5, 0, v75), (4, 0, 1), (0, 2, x0), (1, 2, x1), (2, 0, x2), (3, 0, x3)]) (by decide) rfl dX3_partingStep_78 ?_
      refine hf_iconst (pc := 80) dX3_partingStep_80 ?_
      refine hf_ist (pc := 81) (lv' := [(6, 0, 2), (5, 0, v75), (4, 0, 1), (0, 2, x0), (1, 2, x1), (2, 0, x2), (3, 0, x3)]) (by decide) rfl dX3_partingStep_81 ?_
      exact hf_sub [3, 4, 5, 2, 1, 0] rfl (j_X3_partingStep_83 x0 x1 x2 1 v75 2)
    · refine hf_iconst (pc := 66) dX3_partingStep_66 ?_
      exact hf_Jret (pc := 67) dX3_partingStep_67 (fun _ => rfl)
  · refine hf_ald_n (pc := 14) 0 rfl rfl dX3_partingStep_14 ?_
    refine hf_getf (pc := 15) fl_X3_35 dX3_partingStep_15 (fun v15 => ?_)
    refine hf_ild (pc := 18) 4 rfl dX3_partingStep_18 ?_
    refine hf_ald_n (pc := 20) 0 rfl rfl dX3_partingStep_20 ?_
    refine hf_ald_n (pc := 21) 1 rfl rfl dX3_partingStep_21 ?_
    refine hf_ild (pc := 22) 4 rfl dX3_partingStep_22 ?_
    refine hf_cV (pc := 24) (N := M_X3_wrongAt) (ts := [2, 0]) (vs := [x1, x4]) (st := [(0, x4), (2, v15)]) (fun r => [(0, r), (0, x4), (2, v15)]) (c_X3_wrongAt x0 x1 x4) cal_X3_wrongAt ml_X3_55 ⟨hf_le rfl, hf_le rfl⟩ (hf_le rfl) ⟨rfl, rfl⟩ rfl dX3_partingStep_24 (fun _ => rfl) (fun v24 => ?_)
    refine hf_Jdiz (pc := 27) (pcM := 35) (t := 0) (stM := [(0, x4), (2, v15)]) (fun w35 => ?_) (fun a1 a2 => ?_)
    · refine hf_Jck (fun hz => ?_)
      refine hf_zast (pc := 35) hz dX3_partingStep_35 ?_
      refine hf_ild_n (pc := 36) 3 rfl rfl dX3_partingStep_36 ?_
      refine hf_if_ne (pc := 37) 50 dX3_partingStep_37 rfl ?_ ?_
      · refine hf_iconst (pc := 50) dX3_partingStep_50 ?_
        refine hf_goto (pc := 51) 55 dX3_partingStep_51 rfl ?_
        exact hf_sub [0, 1, 2, 4] rfl (j_X3_partingStep_55 x0 x1 x2 x4 1 rec_5 hrec_5)
      · refine hf_ald_n (pc := 40) 0 rfl rfl dX3_partingStep_40 ?_
        refine hf_getf (pc := 41) fl_X3_35 dX3_partingStep_41 (fun v41 => ?_)
        refine hf_ild (pc := 44) 4 rfl dX3_partingStep_44 ?_
        refine hf_zald (pc := 46) dX3_partingStep_46 (fun v46 => ?_)
        refine hf_if_eq (pc := 47) 54 dX3_partingStep_47 rfl ?_ ?_
        · refine hf_iconst (pc := 54) dX3_partingStep_54 ?_
          exact hf_sub [0, 1, 2, 4] rfl (j_X3_partingStep_55 x0 x1 x2 x4 0 rec_5 hrec_5)
        · refine hf_iconst (pc := 50) dX3_partingStep_50 ?_
          refine hf_goto (pc := 51) 55 dX3_partingStep_51 rfl ?_
          exact hf_sub [0, 1, 2, 4] rfl (j_X3_partingStep_55 x0 x1 x2 x4 1 rec_5 hrec_5)
    · refine hf_if_ne (pc := 27) 34 dX3_partingStep_27 rfl ?_ ?_
      · refine hf_iconst (pc := 34) dX3_partingStep_34 ?_
        exact a1
      · refine hf_iconst (pc := 30) dX3_partingStep_30 ?_
        refine hf_goto (pc := 31) 35 dX3_partingStep_31 rfl ?_
        exact a2
set_option maxRecDepth 20000 in
theorem j_X3_partingStep_5 (x0 x1 x2 x3 x4 : Int) : hf_J M_X3_partingStep 5 [(0, 2, x0), (1, 2, x1), (2, 0, x2), (3, 0, x3), (4, 0, x4)] [] (f_X3_partingStep_5 x0 x1 x2 x3 x4) :=
  hf_Jfx (L := fun s => [(0, 2, x0), (1, 2, x1), (2, 0, x2), (3, 0, s.1), (4, 0, s.2)]) (fun rec hrec s => jb_X3_partingStep_5 x0 x1 x2 rec hrec s.1 s.2) hf_N (x3, x4)
set_option maxRecDepth 20000 in
theorem c_X3_partingStep (x0 x1 x2 : Int) : hf_Met M_X3_partingStep [2, 2, 0] [x0, x1, x2] (f_X3_partingStep x0 x1 x2) := by
  refine hf_met rfl (by decide) (by decide) (by decide) ?_
  show hf_J M_X3_partingStep 0 [(0, 2, x0), (1, 2, x1), (2, 0, x2)] [] _
  refine hf_iconst (pc := 0) dX3_partingStep_0 ?_
  refine hf_ist_n (pc := 1) (lv' := [(3, 0, 0), (0, 2, x0), (1, 2, x1), (2, 0, x2)]) rfl (by decide) rfl dX3_partingStep_1 ?_
  refine hf_iconst (pc := 2) dX3_partingStep_2 ?_
  refine hf_ist (pc := 3) (lv' := [(4, 0, 0), (3, 0, 0), (0, 2, x0), (1, 2, x1), (2, 0, x2)]) (by decide) rfl dX3_partingStep_3 ?_
  exact hf_sub [2, 3, 4, 1, 0] rfl (j_X3_partingStep_5 x0 x1 x2 0 0)
/-! Course.takeBack()V -/
def M_X1_takeBack : hf_D := (yX1_takeBack, cX1_takeBack, 1, none, 0, 0)
def f_X1_takeBack (x0 : Int) : hf_M Int :=
  hf_bd (hf_gf 1 11 x0) (fun v1 => hf_cz v1 (v1 ≤ 0) (hf_ret 0) (hf_bd (hf_gf 1 11 x0) (fun v9 => hf_bd (hf_pf 1 11 x0 (v9 - 1)) (fun _ => hf_bd (hf_gf 1 4 x0) (fun v19 => hf_bd (hf_gf 1 11 x0) (fun v23 => hf_bd (hf_al 20 v19 v23) (fun v26 => hf_bd (hf_pf 1 9 x0 v26) (fun _ => hf_bd (hf_gf 1 5 x0) (fun v32 => hf_bd (hf_gf 1 11 x0) (fun v36 => hf_bd (hf_al 20 v32 v36) (fun v39 => hf_bd (hf_pf 1 10 x0 v39) (fun _ => hf_bd (hf_gf 1 6 x0) (fun v45 => hf_bd (hf_gf 1 11 x0) (fun v49 => hf_bd (hf_al 20 v45 v49) (fun v52 => hf_bd (hf_pf 1 13 x0 v52) (fun _ => hf_bd (hf_gf 1 7 x0) (fun v57 => hf_bd (hf_gf 1 1 x0) (fun v61 => hf_bd (hf_gf 1 11 x0) (fun v65 => hf_bd (hf_al 20 v61 v65) (fun v68 => hf_bd (hf_al 20 v57 v68) (fun v70 => hf_bd (hf_gf 1 3 x0) (fun v72 => hf_bd (hf_gf 1 11 x0) (fun v76 => hf_bd (hf_al 20 v72 v76) (fun v79 => hf_bd (hf_as 20 v57 v68 (v70 + v79)) (fun _ => hf_bd (hf_gf 1 12 x0) (fun v84 => hf_bd (hf_gf 1 3 x0) (fun v88 => hf_bd (hf_gf 1 11 x0) (fun v92 => hf_bd (hf_al 20 v88 v92) (fun v95 => hf_bd (hf_pf 1 12 x0 (v84 - v95)) (fun _ => hf_ret 0))))))))))))))))))))))))))))))
theorem cal_X1_takeBack : hf_cv M_X1_takeBack 1 0 := ⟨⟨ii_X1, kc_X1_takeBack, by decide, by decide, by decide +kernel⟩, ki_X1_takeBack, kv_X1_takeBack, _, rfl, rfl⟩
set_option maxRecDepth 20000 in
theorem c_X1_takeBack (x0 : Int) : hf_Met M_X1_takeBack [2] [x0] (f_X1_takeBack x0) := by
  refine hf_met rfl (by decide) (by decide) (by decide) ?_
  show hf_J M_X1_takeBack 0 [(0, 2, x0)] [] _
  refine hf_ald_n (pc := 0) 0 rfl rfl dX1_takeBack_0 ?_
  refine hf_getf (pc := 1) fl_X1_25 dX1_takeBack_1 (fun v1 => ?_)
  refine hf_if_le (pc := 4) 100 dX1_takeBack_4 rfl ?_ ?_
  · exact hf_Jret (pc := 100) dX1_takeBack_100 (fun _ => rfl)
  · refine hf_ald_n (pc := 7) 0 rfl rfl dX1_takeBack_7 ?_
    refine hf_dup (pc := 8) (by decide) dX1_takeBack_8 ?_
    refine hf_getf (pc := 9) fl_X1_25 dX1_takeBack_9 (fun v9 => ?_)
    refine hf_iconst (pc := 12) dX1_takeBack_12 ?_
    refine hf_isub (pc := 13) dX1_takeBack_13 ?_
    refine hf_putf (pc := 14) fl_X1_25 trivial dX1_takeBack_14 ?_
    refine hf_ald_n (pc := 17) 0 rfl rfl dX1_takeBack_17 ?_
    refine hf_ald_n (pc := 18) 0 rfl rfl dX1_takeBack_18 ?_
    refine hf_getf (pc := 19) fl_X1_46 dX1_takeBack_19 (fun v19 => ?_)
    refine hf_ald_n (pc := 22) 0 rfl rfl dX1_takeBack_22 ?_
    refine hf_getf (pc := 23) fl_X1_25 dX1_takeBack_23 (fun v23 => ?_)
    refine hf_iald (pc := 26) dX1_takeBack_26 (fun v26 => ?_)
    refine hf_putf (pc := 27) fl_X1_19 trivial dX1_takeBack_27 ?_
    refine hf_ald_n (pc := 30) 0 rfl rfl dX1_takeBack_30 ?_
    refine hf_ald_n (pc := 31) 0 rfl rfl dX1_takeBack_31 ?_
    refine hf_getf (pc := 32) fl_X1_49 dX1_takeBack_32 (fun v32 => ?_)
    refine hf_ald_n (pc := 35) 0 rfl rfl dX1_takeBack_35 ?_
    refine hf_getf (pc := 36) fl_X1_25 dX1_takeBack_36 (fun v36 => ?_)
    refine hf_iald (pc := 39) dX1_takeBack_39 (fun v39 => ?_)
    refine hf_putf (pc := 40) fl_X1_22 trivial dX1_takeBack_40 ?_
    refine hf_ald_n (pc := 43) 0 rfl rfl dX1_takeBack_43 ?_
    refine hf_ald_n (pc := 44) 0 rfl rfl dX1_takeBack_44 ?_
    refine hf_getf (pc := 45) fl_X1_52 dX1_takeBack_45 (fun v45 => ?_)
    refine hf_ald_n (pc := 48) 0 rfl rfl dX1_takeBack_48 ?_
    refine hf_getf (pc := 49) fl_X1_25 dX1_takeBack_49 (fun v49 => ?_)
    refine hf_iald (pc := 52) dX1_takeBack_52 (fun v52 => ?_)
    refine hf_putf (pc := 53) fl_X1_31 trivial dX1_takeBack_53 ?_
    refine hf_ald_n (pc := 56) 0 rfl rfl dX1_takeBack_56 ?_
    refine hf_getf (pc := 57) fl_X1_9 dX1_takeBack_57 (fun v57 => ?_)
    refine hf_ald_n (pc := 60) 0 rfl rfl dX1_takeBack_60 ?_
    refine hf_getf (pc := 61) fl_X1_37 dX1_takeBack_61 (fun v61 => ?_)
    refine hf_ald_n (pc := 64) 0 rfl rfl dX1_takeBack_64 ?_
    refine hf_getf (pc := 65) fl_X1_25 dX1_takeBack_65 (fun v65 => ?_)
    refine hf_iald (pc := 68) dX1_takeBack_68 (fun v68 => ?_)
    refine hf_dup2 (pc := 69) (by decide) (by decide) dX1_takeBack_69 ?_
    refine hf_iald (pc := 70) dX1_takeBack_70 (fun v70 => ?_)
    refine hf_ald_n (pc := 71) 0 rfl rfl dX1_takeBack_71 ?_
    refine hf_getf (pc := 72) fl_X1_43 dX1_takeBack_72 (fun v72 => ?_)
    refine hf_ald_n (pc := 75) 0 rfl rfl dX1_takeBack_75 ?_
    refine hf_getf (pc := 76) fl_X1_25 dX1_takeBack_76 (fun v76 => ?_)
    refine hf_iald (pc := 79) dX1_takeBack_79 (fun v79 => ?_)
    refine hf_iadd (pc := 80) dX1_takeBack_80 ?_
    refine hf_iast (pc := 81) dX1_takeBack_81 ?_
    refine hf_ald_n (pc := 82) 0 rfl rfl dX1_takeBack_82 ?_
    refine hf_dup (pc := 83) (by decide) dX1_takeBack_83 ?_
    refine hf_getf (pc := 84) fl_X1_28 dX1_takeBack_84 (fun v84 => ?_)
    refine hf_ald_n (pc := 87) 0 rfl rfl dX1_takeBack_87 ?_
    refine hf_getf (pc := 88) fl_X1_43 dX1_takeBack_88 (fun v88 => ?_)
    refine hf_ald_n (pc := 91) 0 rfl rfl dX1_takeBack_91 ?_
    refine hf_getf (pc := 92) fl_X1_25 dX1_takeBack_92 (fun v92 => ?_)
    refine hf_iald (pc := 95) dX1_takeBack_95 (fun v95 => ?_)
    refine hf_isub (pc := 96) dX1_takeBack_96 ?_
    refine hf_putf (pc := 97) fl_X1_28 trivial dX1_takeBack_97 ?_
    exact hf_Jret (pc := 100) dX1_takeBack_100 (fun _ => rfl)
/-! Course.leftCode()I -/
def M_X1_leftCode : hf_D := (yX1_leftCode, cX1_leftCode, 1, some .int, 0, 0)
def f_X1_leftCode (x0 : Int) : hf_M Int :=
  hf_bd (hf_gf 1 7 x0) (fun v1 => hf_bd (hf_al 20 v1 0) (fun v5 => hf_bd (hf_gf 1 7 x0) (fun v8 => hf_bd (hf_al 20 v8 1) (fun v12 => hf_bd (hf_gf 1 7 x0) (fun v18 => hf_bd (hf_al 20 v18 2) (fun v22 => hf_ret ((v5 + (5 * v12)) + (25 * v22))))))))
theorem cal_X1_leftCode : hf_cv M_X1_leftCode 1 0 := ⟨⟨ii_X1, kc_X1_leftCode, by decide, by decide, by decide +kernel⟩, ki_X1_leftCode, kv_X1_leftCode, _, rfl, rfl⟩
set_option maxRecDepth 20000 in
theorem c_X1_leftCode (x0 : Int) : hf_Met M_X1_leftCode [2] [x0] (f_X1_leftCode x0) := by
  refine hf_met rfl (by decide) (by decide) (by decide) ?_
  show hf_J M_X1_leftCode 0 [(0, 2, x0)] [] _
  refine hf_ald_n (pc := 0) 0 rfl rfl dX1_leftCode_0 ?_
  refine hf_getf (pc := 1) fl_X1_9 dX1_leftCode_1 (fun v1 => ?_)
  refine hf_iconst (pc := 4) dX1_leftCode_4 ?_
  refine hf_iald (pc := 5) dX1_leftCode_5 (fun v5 => ?_)
  refine hf_iconst (pc := 6) dX1_leftCode_6 ?_
  refine hf_ald_n (pc := 7) 0 rfl rfl dX1_leftCode_7 ?_
  refine hf_getf (pc := 8) fl_X1_9 dX1_leftCode_8 (fun v8 => ?_)
  refine hf_iconst (pc := 11) dX1_leftCode_11 ?_
  refine hf_iald (pc := 12) dX1_leftCode_12 (fun v12 => ?_)
  refine hf_imul (pc := 13) dX1_leftCode_13 ?_
  refine hf_iadd (pc := 14) dX1_leftCode_14 ?_
  refine hf_bipush (pc := 15) dX1_leftCode_15 (by decide) ?_
  refine hf_ald_n (pc := 17) 0 rfl rfl dX1_leftCode_17 ?_
  refine hf_getf (pc := 18) fl_X1_9 dX1_leftCode_18 (fun v18 => ?_)
  refine hf_iconst (pc := 21) dX1_leftCode_21 ?_
  refine hf_iald (pc := 22) dX1_leftCode_22 (fun v22 => ?_)
  refine hf_imul (pc := 23) dX1_leftCode_23 ?_
  refine hf_iadd (pc := 24) dX1_leftCode_24 ?_
  exact hf_Jret (pc := 25) dX1_leftCode_25 (fun _ => rfl)
