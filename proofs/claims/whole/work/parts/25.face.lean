/-! HighFall.<init>()V -/
def M_X11_init : hf_D := (yX11_init, cX11_init, 1, none, 3, 61)
def f_X11_init (x0 : Int) : hf_M Int :=
  hf_ob 11 x0 (hf_bd (hf_nw 8 8) (fun v5 => hf_bd (hf_ob 8 v5 (f_X8_init v5)) (fun _ => hf_bd (hf_pf 11 0 x0 v5) (fun _ => hf_bd (hf_na 20 400) (fun v19 => hf_bd (hf_pf 11 1 x0 v19) (fun _ => hf_bd (hf_pf 11 2 x0 0) (fun _ => hf_bd (hf_nw 5 13) (fun v30 => hf_bd (hf_ob 5 v30 (f_X5_init v30)) (fun _ => hf_bd (hf_pf 11 3 x0 v30) (fun _ => hf_bd (hf_nw 4 6) (fun v41 => hf_bd (hf_ob 4 v41 (f_X4_init v41)) (fun _ => hf_bd (hf_pf 11 4 x0 v41) (fun _ => hf_bd (hf_nw 4 6) (fun v52 => hf_bd (hf_ob 4 v52 (f_X4_init v52)) (fun _ => hf_bd (hf_pf 11 5 x0 v52) (fun _ => hf_bd (hf_pf 11 6 x0 0) (fun _ => hf_bd (hf_nw 6 4) (fun v68 => hf_bd (hf_ob 6 v68 (f_X6_init v68)) (fun _ => hf_bd (hf_pf 11 7 x0 v68) (fun _ => hf_bd (hf_nw 0 18) (fun v79 => hf_bd (hf_ob 0 v79 (f_X0_init v79)) (fun _ => hf_bd (hf_pf 11 8 x0 v79) (fun _ => hf_bd (hf_nw 10 6) (fun v90 => hf_bd (hf_ob 10 v90 (f_X10_init v90)) (fun _ => hf_bd (hf_pf 11 9 x0 v90) (fun _ => hf_bd (hf_na 20 10) (fun v103 => hf_bd (hf_pf 11 10 x0 v103) (fun _ => hf_bd (hf_nw 2 2) (fun v109 => hf_bd (hf_ob 2 v109 (f_X2_init v109)) (fun _ => hf_bd (hf_pf 11 11 x0 v109) (fun _ => hf_bd (hf_nw 3 8) (fun v120 => hf_bd (hf_ob 3 v120 (f_X3_init v120)) (fun _ => hf_bd (hf_pf 11 12 x0 v120) (fun _ => hf_bd (hf_nw 1 14) (fun v131 => hf_bd (hf_ob 1 v131 (f_X1_init v131 100)) (fun _ => hf_bd (hf_pf 11 13 x0 v131) (fun _ => hf_bd (hf_pf 11 14 x0 0) (fun _ => hf_ret 0))))))))))))))))))))))))))))))))))))))
theorem cal_X11_init : hf_cix M_X11_init 0 := ⟨⟨ii_X11, kc_X11_init, by decide, by decide, by decide +kernel⟩, ki_X11_init, rfl⟩
set_option maxRecDepth 20000 in
theorem c_X11_init (x0 : Int) : hf_Met M_X11_init [2] [x0] (f_X11_init x0) := by
  refine hf_met rfl (by decide) (by decide) (by decide) ?_
  show hf_J M_X11_init 0 [(0, 2, x0)] [] _
  refine hf_ald_n (pc := 0) 0 rfl rfl dX11_init_0 ?_
  refine hf_objinit (pc := 1) 11 ml_X11_1 oi_in oi_co ⟨hf_le rfl, hf_le rfl⟩ dX11_init_1 ?_
  refine hf_ald_n (pc := 4) 0 rfl rfl dX11_init_4 ?_
  refine hf_new (pc := 5) (tg := 8) (q := (RX8, TX8, 8)) rfl cl_X11_7 it_X8 ii_X8 dX11_init_5 (fun v5 => ?_)
  refine hf_dup (pc := 8) (by decide) dX11_init_8 ?_
  refine hf_cI (pc := 9) (N := M_X8_init) (ts := []) (vs := []) (st := [(2, v5), (2, x0)]) (fun r => [(2, v5), (2, x0)]) (c_X8_init v5) rfl cal_X8_init ml_X11_9 ⟨hf_le rfl, hf_le rfl⟩ (hf_le rfl) ⟨rfl, rfl⟩ rfl dX11_init_9 (fun _ => rfl) (fun _ => ?_)
  refine hf_putfF (pc := 12) fl_X11_10 rfl (fun q hq => by cases hq; rfl) trivial dX11_init_12 ?_
  refine hf_ald_n (pc := 15) 0 rfl rfl dX11_init_15 ?_
  refine hf_sipush (pc := 16) dX11_init_16 (by decide) ?_
  refine hf_newa0 (pc := 19) (tg := 20) (by decide) (by decide) rfl ac_int dX11_init_19 (fun v19 => ?_)
  refine hf_putfF (pc := 21) fl_X11_16 rfl (fun q hq => by cases hq; rfl) trivial dX11_init_21 ?_
  refine hf_ald_n (pc := 24) 0 rfl rfl dX11_init_24 ?_
  refine hf_iconst (pc := 25) dX11_init_25 ?_
  refine hf_putf (pc := 26) fl_X11_20 trivial dX11_init_26 ?_
  refine hf_ald_n (pc := 29) 0 rfl rfl dX11_init_29 ?_
  refine hf_new (pc := 30) (tg := 5) (q := (RX5, TX5, 13)) rfl cl_X11_24 it_X5 ii_X5 dX11_init_30 (fun v30 => ?_)
  refine hf_dup (pc := 33) (by decide) dX11_init_33 ?_
  refine hf_cIN (pc := 34) (N := M_X5_init) (ts := []) (vs := []) (st := [(2, v30), (2, x0)]) (fun r => [(2, v30), (2, x0)]) (c_X5_init v30) rfl cal_X5_init mn_X11_26 ⟨hf_le rfl, hf_le rfl⟩ (hf_le rfl) ⟨rfl, rfl⟩ rfl dX11_init_34 (fun _ => rfl) (fun _ => ?_)
  refine hf_putfF (pc := 37) fl_X11_27 rfl (fun q hq => by cases hq; rfl) trivial dX11_init_37 ?_
  refine hf_ald_n (pc := 40) 0 rfl rfl dX11_init_40 ?_
  refine hf_new (pc := 41) (tg := 4) (q := (RX4, TX4, 6)) rfl cl_X11_31 it_X4 ii_X4 dX11_init_41 (fun v41 => ?_)
  refine hf_dup (pc := 44) (by decide) dX11_init_44 ?_
  refine hf_cIN (pc := 45) (N := M_X4_init) (ts := []) (vs := []) (st := [(2, v41), (2, x0)]) (fun r => [(2, v41), (2, x0)]) (c_X4_init v41) rfl cal_X4_init mn_X11_33 ⟨hf_le rfl, hf_le rfl⟩ (hf_le rfl) ⟨rfl, rfl⟩ rfl dX11_init_45 (fun _ => rfl) (fun _ => ?_)
  refine hf_putf (pc := 48) fl_X11_34 trivial dX11_init_48 ?_
  refine hf_ald_n (pc := 51) 0 rfl rfl dX11_init_51 ?_
  refine hf_new (pc := 52) (tg := 4) (q := (RX4, TX4, 6)) rfl cl_X11_31 it_X4 ii_X4 dX11_init_52 (fun v52 => ?_)
  refine hf_dup (pc := 55) (by decide) dX11_init_55 ?_
  refine hf_cIN (pc := 56) (N := M_X4_init) (ts := []) (vs := []) (st := [(2, v52), (2, x0)]) (fun r => [(2, v52), (2, x0)]) (c_X4_init v52) rfl cal_X4_init mn_X11_33 ⟨hf_le rfl, hf_le rfl⟩ (hf_le rfl) ⟨rfl, rfl⟩ rfl dX11_init_56 (fun _ => rfl) (fun _ => ?_)
  refine hf_putf (pc := 59) fl_X11_38 trivial dX11_init_59 ?_
  refine hf_ald_n (pc := 62) 0 rfl rfl dX11_init_62 ?_
  refine hf_iconst (pc := 63) dX11_init_63 ?_
  refine hf_putf (pc := 64) fl_X11_41 (Or.inl rfl) dX11_init_64 ?_
  refine hf_ald_n (pc := 67) 0 rfl rfl dX11_init_67 ?_
  refine hf_new (pc := 68) (tg := 6) (q := (RX6, TX6, 4)) rfl cl_X11_45 it_X6 ii_X6 dX11_init_68 (fun v68 => ?_)
  refine hf_dup (pc := 71) (by decide) dX11_init_71 ?_
  refine hf_cIN (pc := 72) (N := M_X6_init) (ts := []) (vs := []) (st := [(2, v68), (2, x0)]) (fun r => [(2, v68), (2, x0)]) (c_X6_init v68) rfl cal_X6_init mn_X11_47 ⟨hf_le rfl, hf_le rfl⟩ (hf_le rfl) ⟨rfl, rfl⟩ rfl dX11_init_72 (fun _ => rfl) (fun _ => ?_)
  refine hf_putfF (pc := 75) fl_X11_48 rfl (fun q hq => by cases hq; rfl) trivial dX11_init_75 ?_
  refine hf_ald_n (pc := 78) 0 rfl rfl dX11_init_78 ?_
  refine hf_new (pc := 79) (tg := 0) (q := (RX0, TX0, 18)) rfl cl_X11_52 it_X0 ii_X0 dX11_init_79 (fun v79 => ?_)
  refine hf_dup (pc := 82) (by decide) dX11_init_82 ?_
  refine hf_cIN (pc := 83) (N := M_X0_init) (ts := []) (vs := []) (st := [(2, v79), (2, x0)]) (fun r => [(2, v79), (2, x0)]) (c_X0_init v79) rfl cal_X0_init mn_X11_54 ⟨hf_le rfl, hf_le rfl⟩ (hf_le rfl) ⟨rfl, rfl⟩ rfl dX11_init_83 (fun _ => rfl) (fun _ => ?_)
  refine hf_putfF (pc := 86) fl_X11_55 rfl (fun q hq => by cases hq; rfl) trivial dX11_init_86 ?_
  refine hf_ald_n (pc := 89) 0 rfl rfl dX11_init_89 ?_
  refine hf_new (pc := 90) (tg := 10) (q := (RX10, TX10, 6)) rfl cl_X11_59 it_X10 ii_X10 dX11_init_90 (fun v90 => ?_)
  refine hf_dup (pc := 93) (by decide) dX11_init_93 ?_
  refine hf_cIN (pc := 94) (N := M_X10_init) (ts := []) (vs := []) (st := [(2, v90), (2, x0)]) (fun r => [(2, v90), (2, x0)]) (c_X10_init v90) rfl cal_X10_init mn_X11_61 ⟨hf_le rfl, hf_le rfl⟩ (hf_le rfl) ⟨rfl, rfl⟩ rfl dX11_init_94 (fun _ => rfl) (fun _ => ?_)
  refine hf_putfF (pc := 97) fl_X11_62 rfl (fun q hq => by cases hq; rfl) trivial dX11_init_97 ?_
  refine hf_ald_n (pc := 100) 0 rfl rfl dX11_init_100 ?_
  refine hf_bipush (pc := 101) dX11_init_101 (by decide) ?_
  refine hf_newa0 (pc := 103) (tg := 20) (by decide) (by decide) rfl ac_int dX11_init_103 (fun v103 => ?_)
  refine hf_putfF (pc := 105) fl_X11_66 rfl (fun q hq => by cases hq; rfl) trivial dX11_init_105 ?_
  refine hf_ald_n (pc := 108) 0 rfl rfl dX11_init_108 ?_
  refine hf_new (pc := 109) (tg := 2) (q := (RX2, TX2, 2)) rfl cl_X11_69 it_X2 ii_X2 dX11_init_109 (fun v109 => ?_)
  refine hf_dup (pc := 112) (by decide) dX11_init_112 ?_
  refine hf_cIN (pc := 113) (N := M_X2_init) (ts := []) (vs := []) (st := [(2, v109), (2, x0)]) (fun r => [(2, v109), (2, x0)]) (c_X2_init v109) rfl cal_X2_init mn_X11_71 ⟨hf_le rfl, hf_le rfl⟩ (hf_le rfl) ⟨rfl, rfl⟩ rfl dX11_init_113 (fun _ => rfl) (fun _ => ?_)
  refine hf_putfF (pc := 116) fl_X11_72 rfl (fun q hq => by cases hq; rfl) trivial dX11_init_116 ?_
  refine hf_ald_n (pc := 119) 0 rfl rfl dX11_init_119 ?_
  refine hf_new (pc := 120) (tg := 3) (q := (RX3, TX3, 8)) rfl cl_X11_76 it_X3 ii_X3 dX11_init_120 (fun v120 => ?_)
  refine hf_dup (pc := 123) (by decide) dX11_init_123 ?_
  refine hf_cIN (pc := 124) (N := M_X3_init) (ts := []) (vs := []) (st := [(2, v120), (2, x0)]) (fun r => [(2, v120), (2, x0)]) (c_X3_init v120) rfl cal_X3_init mn_X11_78 ⟨hf_le rfl, hf_le rfl⟩ (hf_le rfl) ⟨rfl, rfl⟩ rfl dX11_init_124 (fun _ => rfl) (fun _ => ?_)
  refine hf_putfF (pc := 127) fl_X11_79 rfl (fun q hq => by cases hq; rfl) trivial dX11_init_127 ?_
  refine hf_ald_n (pc := 130) 0 rfl rfl dX11_init_130 ?_
  refine hf_new (pc := 131) (tg := 1) (q := (RX1, TX1, 14)) rfl cl_X11_83 it_X1 ii_X1 dX11_init_131 (fun v131 => ?_)
  refine hf_dup (pc := 134) (by decide) dX11_init_134 ?_
  refine hf_bipush (pc := 135) dX11_init_135 (by decide) ?_
  refine hf_cI (pc := 137) (N := M_X1_init) (ts := [0]) (vs := [100]) (st := [(2, v131), (2, x0)]) (fun r => [(2, v131), (2, x0)]) (c_X1_init v131 100) rfl cal_X1_init ml_X11_85 ⟨hf_le rfl, hf_le rfl⟩ (hf_le rfl) ⟨rfl, rfl⟩ rfl dX11_init_137 (fun _ => rfl) (fun _ => ?_)
  refine hf_putfF (pc := 140) fl_X11_88 rfl (fun q hq => by cases hq; rfl) trivial dX11_init_140 ?_
  refine hf_ald_n (pc := 143) 0 rfl rfl dX11_init_143 ?_
  refine hf_iconst (pc := 144) dX11_init_144 ?_
  refine hf_putf (pc := 145) fl_X11_92 (Or.inl rfl) dX11_init_145 ?_
  exact hf_Jret (pc := 148) dX11_init_148 (fun _ => rfl)
/-! HighFall.putBytes(I)V -/
def M_X11_putBytes : hf_D := (yX11_putBytes, cX11_putBytes, 3, none, 0, 0)
def f_X11_putBytes_43 (rec_3 : Int → hf_M Int) (x0 x1 x2 : Int) : hf_M Int :=
  hf_bd (hf_ret (x2 + (-8))) (fun x2_43 => rec_3 x2_43)
def B_X11_putBytes_3 (x0 x1 : Int) (rec_3 : Int → hf_M Int) (x2 : Int) : hf_M Int :=
  hf_cz x2 (x2 < 0) (hf_ret 0) (hf_bd (hf_gf 11 2 x0) (fun v8 => hf_cb v8 400 (400 ≤ v8) (f_X11_putBytes_43 rec_3 x0 x1 x2) (hf_bd (hf_gf 11 1 x0) (fun v18 => hf_bd (hf_gf 11 2 x0) (fun v22 => hf_bd (hf_as 20 v18 v22 (hf_and (hf_ushr x1 x2) 255)) (fun _ => hf_bd (hf_gf 11 2 x0) (fun v35 => hf_bd (hf_pf 11 2 x0 (v35 + 1)) (fun _ => f_X11_putBytes_43 rec_3 x0 x1 x2))))))))
def f_X11_putBytes_3 (x0 x1 x2 : Int) : hf_M Int := hf_fx (fun rec s => B_X11_putBytes_3 x0 x1 rec s) hf_N x2
def f_X11_putBytes (x0 x1 : Int) : hf_M Int :=
  f_X11_putBytes_3 x0 x1 24
theorem cal_X11_putBytes : hf_cv M_X11_putBytes 11 1 := ⟨⟨ii_X11, kc_X11_putBytes, by decide, by decide, by decide +kernel⟩, ki_X11_putBytes, kv_X11_putBytes, _, rfl, rfl⟩
set_option maxRecDepth 20000 in
theorem j_X11_putBytes_43 (x0 x1 x2 : Int) (rec_3 : Int → hf_M Int) (hrec_3 : ∀ s : Int, hf_J M_X11_putBytes 3 [(0, 2, x0), (1, 0, x1), (2, 0, s)] [] (rec_3 s)) : hf_J M_X11_putBytes 43 [(0, 2, x0), (1, 0, x1), (2, 0, x2)] [] (f_X11_putBytes_43 rec_3 x0 x1 x2) := by
  refine hf_iincB (pc := 43) (fun y => [(2, 0, y), (0, 2, x0), (1, 0, x1)]) (q := 2) rfl (by decide) (fun _ => rfl) dX11_putBytes_43 (fun x2_43 => ?_)
  refine hf_goto (pc := 46) 3 dX11_putBytes_46 rfl ?_
  exact hf_sub [1, 2, 0] rfl (hrec_3 x2_43)
set_option maxRecDepth 20000 in
theorem jb_X11_putBytes_3 (x0 x1 : Int) (rec_3 : Int → hf_M Int) (hrec_3 : ∀ s : Int, hf_J M_X11_putBytes 3 [(0, 2, x0), (1, 0, x1), (2, 0, s)] [] (rec_3 s)) (x2 : Int) : hf_J M_X11_putBytes 3 [(0, 2, x0), (1, 0, x1), (2, 0, x2)] [] (B_X11_putBytes_3 x0 x1 rec_3 x2) := by
  refine hf_ild_n (pc := 3) 2 rfl rfl dX11_putBytes_3 ?_
  refine hf_if_lt (pc := 4) 49 dX11_putBytes_4 rfl ?_ ?_
  · exact hf_Jret (pc := 49) dX11_putBytes_49 (fun _ => rfl)
  · refine hf_ald_n (pc := 7) 0 rfl rfl dX11_putBytes_7 ?_
    refine hf_getf (pc := 8) fl_X11_20 dX11_putBytes_8 (fun v8 => ?_)
    refine hf_sipush (pc := 11) dX11_putBytes_11 (by decide) ?_
    refine hf_icmp_ge (pc := 14) 43 dX11_putBytes_14 rfl ?_ ?_
    · exact hf_sub [0, 1, 2] rfl (j_X11_putBytes_43 x0 x1 x2 rec_3 hrec_3)
    · refine hf_ald_n (pc := 17) 0 rfl rfl dX11_putBytes_17 ?_
      refine hf_getf (pc := 18) fl_X11_16 dX11_putBytes_18 (fun v18 => ?_)
      refine hf_ald_n (pc := 21) 0 rfl rfl dX11_putBytes_21 ?_
      refine hf_getf (pc := 22) fl_X11_20 dX11_putBytes_22 (fun v22 => ?_)
      refine hf_ild_n (pc := 25) 1 rfl rfl dX11_putBytes_25 ?_
      refine hf_ild_n (pc := 26) 2 rfl rfl dX11_putBytes_26 ?_
      refine hf_iushr (pc := 27) dX11_putBytes_27 ?_
      refine hf_sipush (pc := 28) dX11_putBytes_28 (by decide) ?_
      refine hf_iand (pc := 31) dX11_putBytes_31 ?_
      refine hf_iast (pc := 32) dX11_putBytes_32 ?_
      refine hf_ald_n (pc := 33) 0 rfl rfl dX11_putBytes_33 ?_
      refine hf_dup (pc := 34) (by decide) dX11_putBytes_34 ?_
      refine hf_getf (pc := 35) fl_X11_20 dX11_putBytes_35 (fun v35 => ?_)
      refine hf_iconst (pc := 38) dX11_putBytes_38 ?_
      refine hf_iadd (pc := 39) dX11_putBytes_39 ?_
      refine hf_putf (pc := 40) fl_X11_20 trivial dX11_putBytes_40 ?_
      exact hf_sub [0, 1, 2] rfl (j_X11_putBytes_43 x0 x1 x2 rec_3 hrec_3)
set_option maxRecDepth 20000 in
theorem j_X11_putBytes_3 (x0 x1 x2 : Int) : hf_J M_X11_putBytes 3 [(0, 2, x0), (1, 0, x1), (2, 0, x2)] [] (f_X11_putBytes_3 x0 x1 x2) :=
  hf_Jfx (L := fun s => [(0, 2, x0), (1, 0, x1), (2, 0, s)]) (fun rec hrec s => jb_X11_putBytes_3 x0 x1 rec hrec s) hf_N x2
set_option maxRecDepth 20000 in
theorem c_X11_putBytes (x0 x1 : Int) : hf_Met M_X11_putBytes [2, 0] [x0, x1] (f_X11_putBytes x0 x1) := by
  refine hf_met rfl (by decide) (by decide) (by decide) ?_
  show hf_J M_X11_putBytes 0 [(0, 2, x0), (1, 0, x1)] [] _
  refine hf_bipush (pc := 0) dX11_putBytes_0 (by decide) ?_
  refine hf_ist_n (pc := 2) (lv' := [(2, 0, 24), (0, 2, x0), (1, 0, x1)]) rfl (by decide) rfl dX11_putBytes_2 ?_
  exact hf_sub [1, 2, 0] rfl (j_X11_putBytes_3 x0 x1 24)
/-! HighFall.feed(IIIII)I -/
def M_X11_feed : hf_D := (yX11_feed, cX11_feed, 6, some .int, 1, 22)
def f_X11_feed (x0 x1 x2 x3 x4 x5 : Int) : hf_M Int :=
  hf_bd (hf_gf 11 2 x0) (fun v1 => hf_cb (v1 + 20) 400 ((v1 + 20) ≤ 400) (hf_bd (hf_ob 11 x0 (f_X11_putBytes x0 x1)) (fun _ => hf_bd (hf_ob 11 x0 (f_X11_putBytes x0 x2)) (fun _ => hf_bd (hf_ob 11 x0 (f_X11_putBytes x0 x3)) (fun _ => hf_bd (hf_ob 11 x0 (f_X11_putBytes x0 x4)) (fun _ => hf_bd (hf_ob 11 x0 (f_X11_putBytes x0 x5)) (fun _ => hf_bd (hf_gf 11 2 x0) (fun v43 => hf_ret v43))))))) (hf_ret (-1)))
theorem cal_X11_feed : hf_cv M_X11_feed 11 5 := ⟨⟨ii_X11, kc_X11_feed, by decide, by decide, by decide +kernel⟩, ki_X11_feed, kv_X11_feed, _, rfl, rfl⟩
set_option maxRecDepth 20000 in
theorem c_X11_feed (x0 x1 x2 x3 x4 x5 : Int) : hf_Met M_X11_feed [2, 0, 0, 0, 0, 0] [x0, x1, x2, x3, x4, x5] (f_X11_feed x0 x1 x2 x3 x4 x5) := by
  refine hf_met rfl (by decide) (by decide) (by decide) ?_
  show hf_J M_X11_feed 0 [(0, 2, x0), (1, 0, x1), (2, 0, x2), (3, 0, x3), (4, 0, x4), (5, 0, x5)] [] _
  refine hf_ald_n (pc := 0) 0 rfl rfl dX11_feed_0 ?_
  refine hf_getf (pc := 1) fl_X11_20 dX11_feed_1 (fun v1 => ?_)
  refine hf_bipush (pc := 4) dX11_feed_4 (by decide) ?_
  refine hf_iadd (pc := 6) dX11_feed_6 ?_
  refine hf_sipush (pc := 7) dX11_feed_7 (by decide) ?_
  refine hf_icmp_le (pc := 10) 15 dX11_feed_10 rfl ?_ ?_
  · refine hf_ald_n (pc := 15) 0 rfl rfl dX11_feed_15 ?_
    refine hf_ild_n (pc := 16) 1 rfl rfl dX11_feed_16 ?_
    refine hf_cV (pc := 17) (N := M_X11_putBytes) (ts := [0]) (vs := [x1]) (st := []) (fun r => []) (c_X11_putBytes x0 x1) cal_X11_putBytes ml_X11_95 ⟨hf_le rfl, hf_le rfl⟩ (hf_le rfl) ⟨rfl, rfl⟩ rfl dX11_feed_17 (fun _ => rfl) (fun _ => ?_)
    refine hf_ald_n (pc := 20) 0 rfl rfl dX11_feed_20 ?_
    refine hf_ild_n (pc := 21) 2 rfl rfl dX11_feed_21 ?_
    refine hf_cV (pc := 22) (N := M_X11_putBytes) (ts := [0]) (vs := [x2]) (st := []) (fun r => []) (c_X11_putBytes x0 x2) cal_X11_putBytes ml_X11_95 ⟨hf_le rfl, hf_le rfl⟩ (hf_le rfl) ⟨rfl, rfl⟩ rfl dX11_feed_22 (fun _ => rfl) (fun _ => ?_)
    refine hf_ald_n (pc := 25) 0 rfl rfl dX11_feed_25 ?_
    refine hf_ild_n (pc := 26) 3 rfl rfl dX11_feed_26 ?_
    refine hf_cV (pc := 27) (N := M_X11_putBytes) (ts := [0]) (vs := [x3]) (st := []) (fun r => []) (c_X11_putBytes x0 x3) cal_X11_putBytes ml_X11_95 ⟨hf_le rfl, hf_le rfl⟩ (hf_le rfl) ⟨rfl, rfl⟩ rfl dX11_feed_27 (fun _ => rfl) (fun _ => ?_)
    refine hf_ald_n (pc := 30) 0 rfl rfl dX11_feed_30 ?_
    refine hf_ild (pc := 31) 4 rfl dX11_feed_31 ?_
    refine hf_cV (pc := 33) (N := M_X11_putBytes) (ts := [0]) (vs := [x4]) (st := []) (fun r => []) (c_X11_putBytes x0 x4) cal_X11_putBytes ml_X11_95 ⟨hf_le rfl, hf_le rfl⟩ (hf_le rfl) ⟨rfl, rfl⟩ rfl dX11_feed_33 (fun _ => rfl) (fun _ => ?_)
    refine hf_ald_n (pc := 36) 0 rfl rfl dX11_feed_36 ?_
    refine hf_ild (pc := 37) 5 rfl dX11_feed_37 ?_
    refine hf_cV (pc := 39) (N := M_X11_putBytes) (ts := [0]) (vs := [x5]) (st := []) (fun r => []) (c_X11_putBytes x0 x5) cal_X11_putBytes ml_X11_95 ⟨hf_le rfl, hf_le rfl⟩ (hf_le rfl) ⟨rfl, rfl⟩ rfl dX11_feed_39 (fun _ => rfl) (fun _ => ?_)
    refine hf_ald_n (pc := 42) 0 rfl rfl dX11_feed_42 ?_
    refine hf_getf (pc := 43) fl_X11_20 dX11_feed_43 (fun v43 => ?_)
    exact hf_Jret (pc := 46) dX11_feed_46 (fun _ => rfl)
  · refine hf_iconst (pc := 13) dX11_feed_13 ?_
    exact hf_Jret (pc := 14) dX11_feed_14 (fun _ => rfl)
/-! HighFall.stair(I)Z -/
def M_X11_stair : hf_D := (yX11_stair, cX11_stair, 2, some .boolean, 2, 44)
def f_X11_stair (x0 x1 : Int) : hf_M Int :=
  hf_cb x1 1 (x1 < 1) (hf_ret 0) (hf_cb x1 40 (x1 ≤ 40) (hf_bd (hf_gf 11 0 x0) (fun v14 => hf_bd (hf_ob 8 v14 (f_X8_renew v14 x1)) (fun _ => hf_bd (hf_gf 11 12 x0) (fun v22 => hf_bd (hf_ob 3 v22 (f_X3_clear v22)) (fun _ => hf_bd (hf_pf 11 14 x0 0) (fun _ => hf_ret 1)))))) (hf_ret 0))
theorem cal_X11_stair : hf_cv M_X11_stair 11 1 := ⟨⟨ii_X11, kc_X11_stair, by decide, by decide, by decide +kernel⟩, ki_X11_stair, kv_X11_stair, _, rfl, rfl⟩
set_option maxRecDepth 20000 in
theorem c_X11_stair (x0 x1 : Int) : hf_Met M_X11_stair [2, 0] [x0, x1] (f_X11_stair x0 x1) := by
  refine hf_met rfl (by decide) (by decide) (by decide) ?_
  show hf_J M_X11_stair 0 [(0, 2, x0), (1, 0, x1)] [] _
  refine hf_ild_n (pc := 0) 1 rfl rfl dX11_stair_0 ?_
  refine hf_iconst (pc := 1) dX11_stair_1 ?_
  refine hf_icmp_lt (pc := 2) 11 dX11_stair_2 rfl ?_ ?_
  · refine hf_iconst (pc := 11) dX11_stair_11 ?_
    exact hf_Jret (pc := 12) (r := 0) ⟨dX11_stair_12, Or.inl rfl⟩ (fun _ => rfl)
  · refine hf_ild_n (pc := 5) 1 rfl rfl dX11_stair_5 ?_
    refine hf_bipush (pc := 6) dX11_stair_6 (by decide) ?_
    refine hf_icmp_le (pc := 8) 13 dX11_stair_8 rfl ?_ ?_
    · refine hf_ald_n (pc := 13) 0 rfl rfl dX11_stair_13 ?_
      refine hf_getf (pc := 14) fl_X11_10 dX11_stair_14 (fun v14 => ?_)
      refine hf_ild_n (pc := 17) 1 rfl rfl dX11_stair_17 ?_
      refine hf_cV (pc := 18) (N := M_X8_renew) (ts := [0]) (vs := [x1]) (st := []) (fun r => []) (c_X8_renew v14 x1) cal_X8_renew ml_X11_98 ⟨hf_le rfl, hf_le rfl⟩ (hf_le rfl) ⟨rfl, rfl⟩ rfl dX11_stair_18 (fun _ => rfl) (fun _ => ?_)
      refine hf_ald_n (pc := 21) 0 rfl rfl dX11_stair_21 ?_
      refine hf_getf (pc := 22) fl_X11_79 dX11_stair_22 (fun v22 => ?_)
      refine hf_cV (pc := 25) (N := M_X3_clear) (ts := []) (vs := []) (st := []) (fun r => []) (c_X3_clear v22) cal_X3_clear ml_X11_101 ⟨hf_le rfl, hf_le rfl⟩ (hf_le rfl) ⟨rfl, rfl⟩ rfl dX11_stair_25 (fun _ => rfl) (fun _ => ?_)
      refine hf_ald_n (pc := 28) 0 rfl rfl dX11_stair_28 ?_
      refine hf_iconst (pc := 29) dX11_stair_29 ?_
      refine hf_putf (pc := 30) fl_X11_92 (Or.inl rfl) dX11_stair_30 ?_
      refine hf_iconst (pc := 33) dX11_stair_33 ?_
      exact hf_Jret (pc := 34) (r := 1) ⟨dX11_stair_34, Or.inr rfl⟩ (fun _ => rfl)
    · refine hf_iconst (pc := 11) dX11_stair_11 ?_
      exact hf_Jret (pc := 12) (r := 0) ⟨dX11_stair_12, Or.inl rfl⟩ (fun _ => rfl)
/-! HighFall.kind(IIII)Z -/
def M_X11_kind : hf_D := (yX11_kind, cX11_kind, 5, some .boolean, 1, 24)
def f_X11_kind (x0 x1 x2 x3 x4 : Int) : hf_M Int :=
  hf_bd (hf_gf 11 0 x0) (fun v1 => hf_bd (hf_ob 8 v1 (f_X8_hasKind v1 x1)) (fun v5 => hf_cz v5 (v5 = 0) (hf_ret 0) (hf_cb x2 (-9) (x2 < (-9)) (hf_ret 0) (hf_cb x2 9 (9 < x2) (hf_ret 0) (hf_bd (f_X11_isWithin x3 4) (fun v25 => hf_cz v25 (v25 = 0) (hf_ret 0) (hf_bd (f_X11_isWithin x4 99) (fun v35 => hf_cz v35 (¬ v35 = 0) (hf_bd (hf_gf 11 0 x0) (fun v44 => hf_bd (hf_ob 8 v44 (f_X8_setKind v44 x1 x2 x3 x4)) (fun _ => hf_bd (hf_pf 11 14 x0 0) (fun _ => hf_ret 1)))) (hf_ret 0)))))))))
theorem cal_X11_kind : hf_cv M_X11_kind 11 4 := ⟨⟨ii_X11, kc_X11_kind, by decide, by decide, by decide +kernel⟩, ki_X11_kind, kv_X11_kind, _, rfl, rfl⟩
set_option maxRecDepth 20000 in
theorem c_X11_kind (x0 x1 x2 x3 x4 : Int) : hf_Met M_X11_kind [2, 0, 0, 0, 0] [x0, x1, x2, x3, x4] (f_X11_kind x0 x1 x2 x3 x4) := by
  refine hf_met rfl (by decide) (by decide) (by decide) ?_
  show hf_J M_X11_kind 0 [(0, 2, x0), (1, 0, x1), (2, 0, x2), (3, 0, x3), (4, 0, x4)] [] _
  refine hf_ald_n (pc := 0) 0 rfl rfl dX11_kind_0 ?_
  refine hf_getf (pc := 1) fl_X11_10 dX11_kind_1 (fun v1 => ?_)
  refine hf_ild_n (pc := 4) 1 rfl rfl dX11_kind_4 ?_
  refine hf_cV (pc := 5) (N := M_X8_hasKind) (ts := [0]) (vs := [x1]) (st := []) (fun r => [(0, r)]) (c_X8_hasKind v1 x1) cal_X8_hasKind ml_X11_104 ⟨hf_le rfl, hf_le rfl⟩ (hf_le rfl) ⟨rfl, rfl⟩ rfl dX11_kind_5 (fun _ => rfl) (fun v5 => ?_)
  refine hf_if_eq (pc := 8) 41 dX11_kind_8 rfl ?_ ?_
  · refine hf_iconst (pc := 41) dX11_kind_41 ?_
    exact hf_Jret (pc := 42) (r := 0) ⟨dX11_kind_42, Or.inl rfl⟩ (fun _ => rfl)
  · refine hf_ild_n (pc := 11) 2 rfl rfl dX11_kind_11 ?_
    refine hf_bipush (pc := 12) dX11_kind_12 (by decide) ?_
    refine hf_icmp_lt (pc := 14) 41 dX11_kind_14 rfl ?_ ?_
    · refine hf_iconst (pc := 41) dX11_kind_41 ?_
      exact hf_Jret (pc := 42) (r := 0) ⟨dX11_kind_42, Or.inl rfl⟩ (fun _ => rfl)
    · refine hf_ild_n (pc := 17) 2 rfl rfl dX11_kind_17 ?_
      refine hf_bipush (pc := 18) dX11_kind_18 (by decide) ?_
      refine hf_icmp_gt (pc := 20) 41 dX11_kind_20 rfl ?_ ?_
      · refine hf_iconst (pc := 41) dX11_kind_41 ?_
        exact hf_Jret (pc := 42) (r := 0) ⟨dX11_kind_42, Or.inl rfl⟩ (fun _ => rfl)
      · refine hf_ild_n (pc := 23) 3 rfl rfl dX11_kind_23 ?_
        refine hf_iconst (pc := 24) dX11_kind_24 ?_
        refine hf_cS (pc := 25) (N := M_X11_isWithin) (ts := [0, 0]) (vs := [x3, 4]) (st := []) (fun r => [(0, r)]) (c_X11_isWithin x3 4) cal_X11_isWithin ml_X11_108 ⟨hf_le rfl, hf_le rfl⟩ (hf_le rfl) ⟨rfl, rfl⟩ rfl dX11_kind_25 (fun _ => rfl) (fun v25 => ?_)
        refine hf_if_eq (pc := 28) 41 dX11_kind_28 rfl ?_ ?_
        · refine hf_iconst (pc := 41) dX11_kind_41 ?_
          exact hf_Jret (pc := 42) (r := 0) ⟨dX11_kind_42, Or.inl rfl⟩ (fun _ => rfl)
        · refine hf_ild (pc := 31) 4 rfl dX11_kind_31 ?_
          refine hf_bipush (pc := 33) dX11_kind_33 (by decide) ?_
          refine hf_cS (pc := 35) (N := M_X11_isWithin) (ts := [0, 0]) (vs := [x4, 99]) (st := []) (fun r => [(0, r)]) (c_X11_isWithin x4 99) cal_X11_isWithin ml_X11_108 ⟨hf_le rfl, hf_le rfl⟩ (hf_le rfl) ⟨rfl, rfl⟩ rfl dX11_kind_35 (fun _ => rfl) (fun v35 => ?_)
          refine hf_if_ne (pc := 38) 43 dX11_kind_38 rfl ?_ ?_
          · refine hf_ald_n (pc := 43) 0 rfl rfl dX11_kind_43 ?_
            refine hf_getf (pc := 44) fl_X11_10 dX11_kind_44 (fun v44 => ?_)
            refine hf_ild_n (pc := 47) 1 rfl rfl dX11_kind_47 ?_
            refine hf_ild_n (pc := 48) 2 rfl rfl dX11_kind_48 ?_
            refine hf_ild_n (pc := 49) 3 rfl rfl dX11_kind_49 ?_
            refine hf_ild (pc := 50) 4 rfl dX11_kind_50 ?_
            refine hf_cV (pc := 52) (N := M_X8_setKind) (ts := [0, 0, 0, 0]) (vs := [x1, x2, x3, x4]) (st := []) (fun r => []) (c_X8_setKind v44 x1 x2 x3 x4) cal_X8_setKind ml_X11_112 ⟨hf_le rfl, hf_le rfl⟩ (hf_le rfl) ⟨rfl, rfl⟩ rfl dX11_kind_52 (fun _ => rfl) (fun _ => ?_)
            refine hf_ald_n (pc := 55) 0 rfl rfl dX11_kind_55 ?_
            refine hf_iconst (pc := 56) dX11_kind_56 ?_
            refine hf_putf (pc := 57) fl_X11_92 (Or.inl rfl) dX11_kind_57 ?_
            refine hf_iconst (pc := 60) dX11_kind_60 ?_
            exact hf_Jret (pc := 61) (r := 1) ⟨dX11_kind_61, Or.inr rfl⟩ (fun _ => rfl)
          · refine hf_iconst (pc := 41) dX11_kind_41 ?_
            exact hf_Jret (pc := 42) (r := 0) ⟨dX11_kind_42, Or.inl rfl⟩ (fun _ => rfl)
/-! HighFall.cost(II)Z -/
def M_X11_cost : hf_D := (yX11_cost, cX11_cost, 3, some .boolean, 1, 22)
def f_X11_cost (x0 x1 x2 : Int) : hf_M Int :=
  hf_bd (f_X11_isWithin x1 99) (fun v3 => hf_cz v3 (v3 = 0) (hf_ret 0) (hf_bd (f_X11_isWithin x2 9) (fun v12 => hf_cz v12 (¬ v12 = 0) (hf_bd (hf_gf 11 0 x0) (fun v21 => hf_bd (hf_ob 8 v21 (f_X8_setCosts v21 x1 x2)) (fun _ => hf_ret 1))) (hf_ret 0))))
theorem cal_X11_cost : hf_cv M_X11_cost 11 2 := ⟨⟨ii_X11, kc_X11_cost, by decide, by decide, by decide +kernel⟩, ki_X11_cost, kv_X11_cost, _, rfl, rfl⟩
set_option maxRecDepth 20000 in
theorem c_X11_cost (x0 x1 x2 : Int) : hf_Met M_X11_cost [2, 0, 0] [x0, x1, x2] (f_X11_cost x0 x1 x2) := by
  refine hf_met rfl (by decide) (by decide) (by decide) ?_
  show hf_J M_X11_cost 0 [(0, 2, x0), (1, 0, x1), (2, 0, x2)] [] _
  refine hf_ild_n (pc := 0) 1 rfl rfl dX11_cost_0 ?_
  refine hf_bipush (pc := 1) dX11_cost_1 (by decide) ?_
  refine hf_cS (pc := 3) (N := M_X11_isWithin) (ts := [0, 0]) (vs := [x1, 99]) (st := []) (fun r => [(0, r)]) (c_X11_isWithin x1 99) cal_X11_isWithin ml_X11_108 ⟨hf_le rfl, hf_le rfl⟩ (hf_le rfl) ⟨rfl, rfl⟩ rfl dX11_cost_3 (fun _ => rfl) (fun v3 => ?_)
  refine hf_if_eq (pc := 6) 18 dX11_cost_6 rfl ?_ ?_
  · refine hf_iconst (pc := 18) dX11_cost_18 ?_
    exact hf_Jret (pc := 19) (r := 0) ⟨dX11_cost_19, Or.inl rfl⟩ (fun _ => rfl)
  · refine hf_ild_n (pc := 9) 2 rfl rfl dX11_cost_9 ?_
    refine hf_bipush (pc := 10) dX11_cost_10 (by decide) ?_
    refine hf_cS (pc := 12) (N := M_X11_isWithin) (ts := [0, 0]) (vs := [x2, 9]) (st := []) (fun r => [(0, r)]) (c_X11_isWithin x2 9) cal_X11_isWithin ml_X11_108 ⟨hf_le rfl, hf_le rfl⟩ (hf_le rfl) ⟨rfl, rfl⟩ rfl dX11_cost_12 (fun _ => rfl) (fun v12 => ?_)
    refine hf_if_ne (pc := 15) 20 dX11_cost_15 rfl ?_ ?_
    · refine hf_ald_n (pc := 20) 0 rfl rfl dX11_cost_20 ?_
      refine hf_getf (pc := 21) fl_X11_10 dX11_cost_21 (fun v21 => ?_)
      refine hf_ild_n (pc := 24) 1 rfl rfl dX11_cost_24 ?_
      refine hf_ild_n (pc := 25) 2 rfl rfl dX11_cost_25 ?_
      refine hf_cV (pc := 26) (N := M_X8_setCosts) (ts := [0, 0]) (vs := [x1, x2]) (st := []) (fun r => []) (c_X8_setCosts v21 x1 x2) cal_X8_setCosts ml_X11_116 ⟨hf_le rfl, hf_le rfl⟩ (hf_le rfl) ⟨rfl, rfl⟩ rfl dX11_cost_26 (fun _ => rfl) (fun _ => ?_)
      refine hf_iconst (pc := 29) dX11_cost_29 ?_
      exact hf_Jret (pc := 30) (r := 1) ⟨dX11_cost_30, Or.inr rfl⟩ (fun _ => rfl)
    · refine hf_iconst (pc := 18) dX11_cost_18 ?_
      exact hf_Jret (pc := 19) (r := 0) ⟨dX11_cost_19, Or.inl rfl⟩ (fun _ => rfl)
/-! HighFall.weight(II)Z -/
def M_X11_weight : hf_D := (yX11_weight, cX11_weight, 3, some .boolean, 1, 22)
def f_X11_weight (x0 x1 x2 : Int) : hf_M Int :=
  hf_bd (hf_gf 11 0 x0) (fun v1 => hf_bd (hf_ob 8 v1 (f_X8_hasStrength v1 x1)) (fun v5 => hf_cz v5 (v5 = 0) (hf_ret 0) (hf_bd (f_X11_isWithin x2 99) (fun v14 => hf_cz v14 (¬ v14 = 0) (hf_bd (hf_gf 11 0 x0) (fun v23 => hf_bd (hf_ob 8 v23 (f_X8_setWeight v23 x1 x2)) (fun _ => hf_ret 1))) (hf_ret 0)))))
theorem cal_X11_weight : hf_cv M_X11_weight 11 2 := ⟨⟨ii_X11, kc_X11_weight, by decide, by decide, by decide +kernel⟩, ki_X11_weight, kv_X11_weight, _, rfl, rfl⟩
set_option maxRecDepth 20000 in
theorem c_X11_weight (x0 x1 x2 : Int) : hf_Met M_X11_weight [2, 0, 0] [x0, x1, x2] (f_X11_weight x0 x1 x2) := by
  refine hf_met rfl (by decide) (by decide) (by decide) ?_
  show hf_J M_X11_weight 0 [(0, 2, x0), (1, 0, x1), (2, 0, x2)] [] _
  refine hf_ald_n (pc := 0) 0 rfl rfl dX11_weight_0 ?_
  refine hf_getf (pc := 1) fl_X11_10 dX11_weight_1 (fun v1 => ?_)
  refine hf_ild_n (pc := 4) 1 rfl rfl dX11_weight_4 ?_
  refine hf_cV (pc := 5) (N := M_X8_hasStrength) (ts := [0]) (vs := [x1]) (st := []) (fun r => [(0, r)]) (c_X8_hasStrength v1 x1) cal_X8_hasStrength ml_X11_120 ⟨hf_le rfl, hf_le rfl⟩ (hf_le rfl) ⟨rfl, rfl⟩ rfl dX11_weight_5 (fun _ => rfl) (fun v5 => ?_)
  refine hf_if_eq (pc := 8) 20 dX11_weight_8 rfl ?_ ?_
  · refine hf_iconst (pc := 20) dX11_weight_20 ?_
    exact hf_Jret (pc := 21) (r := 0) ⟨dX11_weight_21, Or.inl rfl⟩ (fun _ => rfl)
  · refine hf_ild_n (pc := 11) 2 rfl rfl dX11_weight_11 ?_
    refine hf_bipush (pc := 12) dX11_weight_12 (by decide) ?_
    refine hf_cS (pc := 14) (N := M_X11_isWithin) (ts := [0, 0]) (vs := [x2, 99]) (st := []) (fun r => [(0, r)]) (c_X11_isWithin x2 99) cal_X11_isWithin ml_X11_108 ⟨hf_le rfl, hf_le rfl⟩ (hf_le rfl) ⟨rfl, rfl⟩ rfl dX11_weight_14 (fun _ => rfl) (fun v14 => ?_)
    refine hf_if_ne (pc := 17) 22 dX11_weight_17 rfl ?_ ?_
    · refine hf_ald_n (pc := 22) 0 rfl rfl dX11_weight_22 ?_
      refine hf_getf (pc := 23) fl_X11_10 dX11_weight_23 (fun v23 => ?_)
      refine hf_ild_n (pc := 26) 1 rfl rfl dX11_weight_26 ?_
      refine hf_ild_n (pc := 27) 2 rfl rfl dX11_weight_27 ?_
      refine hf_cV (pc := 28) (N := M_X8_setWeight) (ts := [0, 0]) (vs := [x1, x2]) (st := []) (fun r => []) (c_X8_setWeight v23 x1 x2) cal_X8_setWeight ml_X11_123 ⟨hf_le rfl, hf_le rfl⟩ (hf_le rfl) ⟨rfl, rfl⟩ rfl dX11_weight_28 (fun _ => rfl) (fun _ => ?_)
      refine hf_iconst (pc := 31) dX11_weight_31 ?_
      exact hf_Jret (pc := 32) (r := 1) ⟨dX11_weight_32, Or.inr rfl⟩ (fun _ => rfl)
    · refine hf_iconst (pc := 20) dX11_weight_20 ?_
      exact hf_Jret (pc := 21) (r := 0) ⟨dX11_weight_21, Or.inl rfl⟩ (fun _ => rfl)
/-! HighFall.likely(I)I -/
def M_X11_likely : hf_D := (yX11_likely, cX11_likely, 2, some .int, 1, 21)
def f_X11_likely (x0 x1 : Int) : hf_M Int :=
  hf_bd (hf_gf 11 0 x0) (fun v1 => hf_bd (hf_ob 8 v1 (f_X8_hasStrength v1 x1)) (fun v5 => hf_cz v5 (v5 = 0) (hf_ret (-1)) (hf_bd (hf_gf 11 0 x0) (fun v12 => hf_bd (hf_gf 8 6 v12) (fun v15 => hf_bd (hf_al 20 v15 x1) (fun v19 => hf_ret v19))))))
theorem cal_X11_likely : hf_cv M_X11_likely 11 1 := ⟨⟨ii_X11, kc_X11_likely, by decide, by decide, by decide +kernel⟩, ki_X11_likely, kv_X11_likely, _, rfl, rfl⟩
set_option maxRecDepth 20000 in
theorem c_X11_likely (x0 x1 : Int) : hf_Met M_X11_likely [2, 0] [x0, x1] (f_X11_likely x0 x1) := by
  refine hf_met rfl (by decide) (by decide) (by decide) ?_
  show hf_J M_X11_likely 0 [(0, 2, x0), (1, 0, x1)] [] _
  refine hf_ald_n (pc := 0) 0 rfl rfl dX11_likely_0 ?_
  refine hf_getf (pc := 1) fl_X11_10 dX11_likely_1 (fun v1 => ?_)
  refine hf_ild_n (pc := 4) 1 rfl rfl dX11_likely_4 ?_
  refine hf_cV (pc := 5) (N := M_X8_hasStrength) (ts := [0]) (vs := [x1]) (st := []) (fun r => [(0, r)]) (c_X8_hasStrength v1 x1) cal_X8_hasStrength ml_X11_120 ⟨hf_le rfl, hf_le rfl⟩ (hf_le rfl) ⟨rfl, rfl⟩ rfl dX11_likely_5 (fun _ => rfl) (fun v5 => ?_)
  refine hf_if_eq (pc := 8) 23 dX11_likely_8 rfl ?_ ?_
  · refine hf_iconst (pc := 23) dX11_likely_23 ?_
    exact hf_Jret (pc := 24) dX11_likely_24 (fun _ => rfl)
  · refine hf_ald_n (pc := 11) 0 rfl rfl dX11_likely_11 ?_
    refine hf_getf (pc := 12) fl_X11_10 dX11_likely_12 (fun v12 => ?_)
    refine hf_getf (pc := 15) fl_X11_147 dX11_likely_15 (fun v15 => ?_)
    refine hf_ild_n (pc := 18) 1 rfl rfl dX11_likely_18 ?_
    refine hf_iald (pc := 19) dX11_likely_19 (fun v19 => ?_)
    refine hf_goto (pc := 20) 24 dX11_likely_20 rfl ?_
    exact hf_Jret (pc := 24) dX11_likely_24 (fun _ => rfl)
/-! HighFall.plan(I)I -/
def M_X11_plan : hf_D := (yX11_plan, cX11_plan, 3, some .int, 8, 172)
def f_X11_plan (x0 x1 : Int) : hf_M Int :=
  hf_cz x1 (x1 < 0) (hf_ret (-2)) (hf_bd (hf_gf 11 2 x0) (fun v6 => hf_cb x1 v6 (x1 ≤ v6) (hf_bd (hf_gf 11 3 x0) (fun v16 => hf_bd (hf_gf 11 1 x0) (fun v20 => hf_bd (hf_gf 11 5 x0) (fun v25 => hf_bd (hf_ob 5 v16 (f_X5_read v16 v20 x1 v25)) (fun _ => hf_bd (hf_pf 11 2 x0 0) (fun _ => hf_bd (hf_gf 11 3 x0) (fun v37 => hf_bd (hf_gf 5 11 v37) (fun v40 => hf_cz v40 (v40 = 0) (hf_bd (hf_gf 11 4 x0) (fun v49 => hf_bd (hf_gf 11 5 x0) (fun v55 => hf_bd (hf_pf 11 4 x0 v55) (fun _ => hf_bd (hf_pf 11 5 x0 v49) (fun _ => hf_bd (hf_pf 11 6 x0 1) (fun _ => hf_bd (hf_gf 11 4 x0) (fun v72 => hf_bd (hf_gf 4 0 v72) (fun v75 => hf_ret v75)))))))) (hf_ret (-1)))))))))) (hf_ret (-2))))
theorem cal_X11_plan : hf_cv M_X11_plan 11 1 := ⟨⟨ii_X11, kc_X11_plan, by decide, by decide, by decide +kernel⟩, ki_X11_plan, kv_X11_plan, _, rfl, rfl⟩
set_option maxRecDepth 20000 in
theorem c_X11_plan (x0 x1 : Int) : hf_Met M_X11_plan [2, 0] [x0, x1] (f_X11_plan x0 x1) := by
  refine hf_met rfl (by decide) (by decide) (by decide) ?_
  show hf_J M_X11_plan 0 [(0, 2, x0), (1, 0, x1)] [] _
  refine hf_ild_n (pc := 0) 1 rfl rfl dX11_plan_0 ?_
  refine hf_if_lt (pc := 1) 12 dX11_plan_1 rfl ?_ ?_
  · refine hf_bipush (pc := 12) dX11_plan_12 (by decide) ?_
    exact hf_Jret (pc := 14) dX11_plan_14 (fun _ => rfl)
  · refine hf_ild_n (pc := 4) 1 rfl rfl dX11_plan_4 ?_
    refine hf_ald_n (pc := 5) 0 rfl rfl dX11_plan_5 ?_
    refine hf_getf (pc := 6) fl_X11_20 dX11_plan_6 (fun v6 => ?_)
    refine hf_icmp_le (pc := 9) 15 dX11_plan_9 rfl ?_ ?_
    · refine hf_ald_n (pc := 15) 0 rfl rfl dX11_plan_15 ?_
      refine hf_getf (pc := 16) fl_X11_27 dX11_plan_16 (fun v16 => ?_)
      refine hf_ald_n (pc := 19) 0 rfl rfl dX11_plan_19 ?_
      refine hf_getf (pc := 20) fl_X11_16 dX11_plan_20 (fun v20 => ?_)
      refine hf_ild_n (pc := 23) 1 rfl rfl dX11_plan_23 ?_
      refine hf_ald_n (pc := 24) 0 rfl rfl dX11_plan_24 ?_
      refine hf_getf (pc := 25) fl_X11_38 dX11_plan_25 (fun v25 => ?_)
      refine hf_cV (pc := 28) (N := M_X5_read) (ts := [2, 0, 2]) (vs := [v20, x1, v25]) (st := []) (fun r => []) (c_X5_read v16 v20 x1 v25) cal_X5_read ml_X11_150 ⟨hf_le rfl, hf_le rfl⟩ (hf_le rfl) ⟨rfl, rfl⟩ rfl dX11_plan_28 (fun _ => rfl) (fun _ => ?_)
      refine hf_ald_n (pc := 31) 0 rfl rfl dX11_plan_31 ?_
      refine hf_iconst (pc := 32) dX11_plan_32 ?_
      refine hf_putf (pc := 33) fl_X11_20 trivial dX11_plan_33 ?_
      refine hf_ald_n (pc := 36) 0 rfl rfl dX11_plan_36 ?_
      refine hf_getf (pc := 37) fl_X11_27 dX11_plan_37 (fun v37 => ?_)
      refine hf_getf (pc := 40) fl_X11_154 dX11_plan_40 (fun v40 => ?_)
      refine hf_if_eq (pc := 43) 48 dX11_plan_43 rfl ?_ ?_
      · refine hf_ald_n (pc := 48) 0 rfl rfl dX11_plan_48 ?_
        refine hf_getf (pc := 49) fl_X11_34 dX11_plan_49 (fun v49 => ?_)
        refine hf_ast_n (pc := 52) (lv' := [(2, 2, v49), (0, 2, x0), (1, 0, x1)]) rfl (by decide) rfl dX11_plan_52 ?_
        refine hf_ald_n (pc := 53) 1 rfl rfl dX11_plan_53 ?_
        refine hf_ald_n (pc := 54) 1 rfl rfl dX11_plan_54 ?_
        refine hf_getf (pc := 55) fl_X11_38 dX11_plan_55 (fun v55 => ?_)
        refine hf_putf (pc := 58) fl_X11_34 trivial dX11_plan_58 ?_
        refine hf_ald_n (pc := 61) 1 rfl rfl dX11_plan_61 ?_
        refine hf_ald_n (pc := 62) 0 rfl rfl dX11_plan_62 ?_
        refine hf_putf (pc := 63) fl_X11_38 trivial dX11_plan_63 ?_
        refine hf_ald_n (pc := 66) 1 rfl rfl dX11_plan_66 ?_
        refine hf_iconst (pc := 67) dX11_plan_67 ?_
        refine hf_putf (pc := 68) fl_X11_41 (Or.inr rfl) dX11_plan_68 ?_
        refine hf_ald_n (pc := 71) 1 rfl rfl dX11_plan_71 ?_
        refine hf_getf (pc := 72) fl_X11_34 dX11_plan_72 (fun v72 => ?_)
        refine hf_getf (pc := 75) fl_X11_157 dX11_plan_75 (fun v75 => ?_)
        exact hf_Jret (pc := 78) dX11_plan_78 (fun _ => rfl)
      · refine hf_iconst (pc := 46) dX11_plan_46 ?_
        exact hf_Jret (pc := 47) dX11_plan_47 (fun _ => rfl)
    · refine hf_bipush (pc := 12) dX11_plan_12 (by decide) ?_
      exact hf_Jret (pc := 14) dX11_plan_14 (fun _ => rfl)
/-! HighFall.fault(I)I -/
def M_X11_fault : hf_D := (yX11_fault, cX11_fault, 2, some .int, 0, 0)
def f_X11_fault (x0 x1 : Int) : hf_M Int :=
  hf_ck (hf_inI x1) (hf_it (x1 = 0) (hf_bd (hf_gf 11 3 x0) (fun v29 => hf_bd (hf_gf 5 11 v29) (fun v32 => hf_ret v32))) (hf_it (x1 = 1) (hf_bd (hf_gf 11 3 x0) (fun v37 => hf_bd (hf_gf 5 12 v37) (fun v40 => hf_ret v40))) (hf_ret (-1))))
theorem cal_X11_fault : hf_cv M_X11_fault 11 1 := ⟨⟨ii_X11, kc_X11_fault, by decide, by decide, by decide +kernel⟩, ki_X11_fault, kv_X11_fault, _, rfl, rfl⟩
set_option maxRecDepth 20000 in
theorem c_X11_fault (x0 x1 : Int) : hf_Met M_X11_fault [2, 0] [x0, x1] (f_X11_fault x0 x1) := by
  refine hf_met rfl (by decide) (by decide) (by decide) ?_
  show hf_J M_X11_fault 0 [(0, 2, x0), (1, 0, x1)] [] _
  refine hf_ild_n (pc := 0) 1 rfl rfl dX11_fault_0 ?_
  refine hf_Jck (fun hr => ?_)
  refine hf_Jit (fun hc0 => ?_) (fun hc0 => ?_)
  · refine hf_lsw (pc := 1) (off := 27) 28 hr dX11_fault_1 (by decide) (by rw [hc0]; rfl) rfl ?_
    refine hf_ald_n (pc := 28) 0 rfl rfl dX11_fault_28 ?_
    refine hf_getf (pc := 29) fl_X11_27 dX11_fault_29 (fun v29 => ?_)
    refine hf_getf (pc := 32) fl_X11_154 dX11_fault_32 (fun v32 => ?_)
    exact hf_Jret (pc := 35) dX11_fault_35 (fun _ => rfl)
  · refine hf_Jit (fun hc1 => ?_) (fun hc1 => ?_)
    · refine hf_lsw (pc := 1) (off := 35) 36 hr dX11_fault_1 (by decide) (by rw [hc1]; rfl) rfl ?_
      refine hf_ald_n (pc := 36) 0 rfl rfl dX11_fault_36 ?_
      refine hf_getf (pc := 37) fl_X11_27 dX11_fault_37 (fun v37 => ?_)
      refine hf_getf (pc := 40) fl_X11_160 dX11_fault_40 (fun v40 => ?_)
      exact hf_Jret (pc := 43) dX11_fault_43 (fun _ => rfl)
    · refine hf_lsw (pc := 1) (off := 43) 44 hr dX11_fault_1 (by decide) (by simp [Op.lookupswitch.offset, Ne.symm, hc0, hc1]) rfl ?_
      refine hf_iconst (pc := 44) dX11_fault_44 ?_
      exact hf_Jret (pc := 45) dX11_fault_45 (fun _ => rfl)
/-! HighFall.tried(II)J -/
def M_X11_tried : hf_D := (yX11_tried, cX11_tried, 3, some .long, 7, 170)
def f_X11_tried_30 : hf_M Int :=
  hf_ret (-1)
def f_X11_tried (x0 x1 x2 : Int) : hf_M Int :=
  hf_bd (hf_gf 11 6 x0) (fun v1 => hf_cz v1 (¬ v1 = 0) (hf_bd (hf_gf 11 0 x0) (fun v12 => hf_bd (hf_ob 8 v12 (f_X8_hasStrength v12 x1)) (fun v16 => hf_cz v16 (v16 = 0) (f_X11_tried_30) (hf_bd (f_X11_isWithin x2 4) (fun v24 => hf_cz v24 (¬ v24 = 0) (hf_bd (hf_gf 11 7 x0) (fun v35 => hf_bd (hf_gf 11 0 x0) (fun v39 => hf_bd (hf_gf 11 4 x0) (fun v43 => hf_bd (hf_ob 6 v35 (f_X6_run v35 v39 v43 x1)) (fun _ => hf_ck (hf_inI x2) (hf_it (x2 = 0) (hf_bd (hf_gf 11 7 x0) (fun v81 => hf_bd (hf_gf 6 2 v81) (fun v84 => hf_ck (hf_inI v84) (hf_ret v84)))) (hf_it (x2 = 1) (hf_bd (hf_gf 11 7 x0) (fun v90 => hf_bd (hf_gf 6 0 v90) (fun v93 => hf_bd (hf_gf 1 11 v93) (fun v96 => hf_ck (hf_inI v96) (hf_ret v96))))) (hf_it (x2 = 2) (hf_bd (hf_gf 11 7 x0) (fun v102 => hf_bd (hf_gf 6 0 v102) (fun v105 => hf_bd (hf_gf 1 12 v105) (fun v108 => hf_ck (hf_inI v108) (hf_ret v108))))) (hf_it (x2 = 3) (hf_bd (hf_gf 11 7 x0) (fun v114 => hf_bd (hf_gf 6 0 v114) (fun v117 => hf_bd (hf_gf 1 13 v117) (fun v120 => hf_ck (hf_inI v120) (hf_ret v120))))) (hf_bd (hf_gf 11 7 x0) (fun v126 => hf_bd (hf_gf 6 3 v126) (fun v129 => hf_ret v129)))))))))))) (f_X11_tried_30)))))) (hf_ret (-2)))
theorem cal_X11_tried : hf_cv M_X11_tried 11 2 := ⟨⟨ii_X11, kc_X11_tried, by decide, by decide, by decide +kernel⟩, ki_X11_tried, kv_X11_tried, _, rfl, rfl⟩
set_option maxRecDepth 20000 in
theorem j_X11_tried_30 : hf_J M_X11_tried 30 [] [] (f_X11_tried_30) := by
  refine hf_ldc2 (pc := 30) (n := (-1)) co_X11_165 (by decide) dX11_tried_30 ?_
  exact hf_Jret (pc := 33) dX11_tried_33 (fun _ => rfl)
set_option maxRecDepth 20000 in
theorem c_X11_tried (x0 x1 x2 : Int) : hf_Met M_X11_tried [2, 0, 0] [x0, x1, x2] (f_X11_tried x0 x1 x2) := by
  refine hf_met rfl (by decide) (by decide) (by decide) ?_
  show hf_J M_X11_tried 0 [(0, 2, x0), (1, 0, x1), (2, 0, x2)] [] _
  refine hf_ald_n (pc := 0) 0 rfl rfl dX11_tried_0 ?_
  refine hf_getf (pc := 1) fl_X11_41 dX11_tried_1 (fun v1 => ?_)
  refine hf_if_ne (pc := 4) 11 dX11_tried_4 rfl ?_ ?_
  · refine hf_ald_n (pc := 11) 0 rfl rfl dX11_tried_11 ?_
    refine hf_getf (pc := 12) fl_X11_10 dX11_tried_12 (fun v12 => ?_)
    refine hf_ild_n (pc := 15) 1 rfl rfl dX11_tried_15 ?_
    refine hf_cV (pc := 16) (N := M_X8_hasStrength) (ts := [0]) (vs := [x1]) (st := []) (fun r => [(0, r)]) (c_X8_hasStrength v12 x1) cal_X8_hasStrength ml_X11_120 ⟨hf_le rfl, hf_le rfl⟩ (hf_le rfl) ⟨rfl, rfl⟩ rfl dX11_tried_16 (fun _ => rfl) (fun v16 => ?_)
    refine hf_if_eq (pc := 19) 30 dX11_tried_19 rfl ?_ ?_
    · exact hf_sub [] rfl j_X11_tried_30
    · refine hf_ild_n (pc := 22) 2 rfl rfl dX11_tried_22 ?_
      refine hf_iconst (pc := 23) dX11_tried_23 ?_
      refine hf_cS (pc := 24) (N := M_X11_isWithin) (ts := [0, 0]) (vs := [x2, 4]) (st := []) (fun r => [(0, r)]) (c_X11_isWithin x2 4) cal_X11_isWithin ml_X11_108 ⟨hf_le rfl, hf_le rfl⟩ (hf_le rfl) ⟨rfl, rfl⟩ rfl dX11_tried_24 (fun _ => rfl) (fun v24 => ?_)
      refine hf_if_ne (pc := 27) 34 dX11_tried_27 rfl ?_ ?_
      · refine hf_ald_n (pc := 34) 0 rfl rfl dX11_tried_34 ?_
        refine hf_getf (pc := 35) fl_X11_48 dX11_tried_35 (fun v35 => ?_)
        refine hf_ald_n (pc := 38) 0 rfl rfl dX11_tried_38 ?_
        refine hf_getf (pc := 39) fl_X11_10 dX11_tried_39 (fun v39 => ?_)
        refine hf_ald_n (pc := 42) 0 rfl rfl dX11_tried_42 ?_
        refine hf_getf (pc := 43) fl_X11_34 dX11_tried_43 (fun v43 => ?_)
        refine hf_ild_n (pc := 46) 1 rfl rfl dX11_tried_46 ?_
        refine hf_cV (pc := 47) (N := M_X6_run) (ts := [2, 2, 0]) (vs := [v39, v43, x1]) (st := []) (fun r => []) (c_X6_run v35 v39 v43 x1) cal_X6_run ml_X11_167 ⟨hf_le rfl, hf_le rfl⟩ (hf_le rfl) ⟨rfl, rfl⟩ rfl dX11_tried_47 (fun _ => rfl) (fun _ => ?_)
        refine hf_ild_n (pc := 50) 2 rfl rfl dX11_tried_50 ?_
        refine hf_Jck (fun hr => ?_)
        refine hf_Jit (fun hc0 => ?_) (fun hc0 => ?_)
        · refine hf_tsw (pc := 51) 80 29 hr dX11_tried_51 (by omega) (by omega) (by rw [hc0]; rfl) rfl ?_
          refine hf_ald_n (pc := 80) 0 rfl rfl dX11_tried_80 ?_
          refine hf_getf (pc := 81) fl_X11_48 dX11_tried_81 (fun v81 => ?_)
          refine hf_getf (pc := 84) fl_X11_171 dX11_tried_84 (fun v84 => ?_)
          refine hf_i2l (pc := 87) dX11_tried_87 ?_
          exact hf_Jret (pc := 88) dX11_tried_88 (fun _ => rfl)
        · refine hf_Jit (fun hc1 => ?_) (fun hc1 => ?_)
          · refine hf_tsw (pc := 51) 89 38 hr dX11_tried_51 (by omega) (by omega) (by rw [hc1]; rfl) rfl ?_
            refine hf_ald_n (pc := 89) 0 rfl rfl dX11_tried_89 ?_
            refine hf_getf (pc := 90) fl_X11_48 dX11_tried_90 (fun v90 => ?_)
            refine hf_getf (pc := 93) fl_X11_174 dX11_tried_93 (fun v93 => ?_)
            refine hf_getf (pc := 96) fl_X11_177 dX11_tried_96 (fun v96 => ?_)
            refine hf_i2l (pc := 99) dX11_tried_99 ?_
            exact hf_Jret (pc := 100) dX11_tried_100 (fun _ => rfl)
          · refine hf_Jit (fun hc2 => ?_) (fun hc2 => ?_)
            · refine hf_tsw (pc := 51) 101 50 hr dX11_tried_51 (by omega) (by omega) (by rw [hc2]; rfl) rfl ?_
              refine hf_ald_n (pc := 101) 0 rfl rfl dX11_tried_101 ?_
              refine hf_getf (pc := 102) fl_X11_48 dX11_tried_102 (fun v102 => ?_)
              refine hf_getf (pc := 105) fl_X11_174 dX11_tried_105 (fun v105 => ?_)
              refine hf_getf (pc := 108) fl_X11_180 dX11_tried_108 (fun v108 => ?_)
              refine hf_i2l (pc := 111) dX11_tried_111 ?_
              exact hf_Jret (pc := 112) dX11_tried_112 (fun _ => rfl)
            · refine hf_Jit (fun hc3 => ?_) (fun hc3 => ?_)
              · refine hf_tsw (pc := 51) 113 62 hr dX11_tried_51 (by omega) (by omega) (by rw [hc3]; rfl) rfl ?_
                refine hf_ald_n (pc := 113) 0 rfl rfl dX11_tried_113 ?_
                refine hf_getf (pc := 114) fl_X11_48 dX11_tried_114 (fun v114 => ?_)
                refine hf_getf (pc := 117) fl_X11_174 dX11_tried_117 (fun v117 => ?_)
                refine hf_getf (pc := 120) fl_X11_183 dX11_tried_120 (fun v120 => ?_)
                refine hf_i2l (pc := 123) dX11_tried_123 ?_
                exact hf_Jret (pc := 124) dX11_tried_124 (fun _ => rfl)
              · refine hf_tswd (pc := 51) 125 hr dX11_tried_51 (by omega) rfl ?_
                refine hf_ald_n (pc := 125) 0 rfl rfl dX11_tried_125 ?_
                refine hf_getf (pc := 126) fl_X11_48 dX11_tried_126 (fun v126 => ?_)
                refine hf_getf (pc := 129) fl_X11_186 dX11_tried_129 (fun v129 => ?_)
                exact hf_Jret (pc := 132) dX11_tried_132 (fun _ => rfl)
      · exact hf_sub [] rfl j_X11_tried_30
  · refine hf_ldc2 (pc := 7) (n := (-2)) co_X11_163 (by decide) dX11_tried_7 ?_
    exact hf_Jret (pc := 10) dX11_tried_10 (fun _ => rfl)
/-! HighFall.fall(III)I -/
def M_X11_fall : hf_D := (yX11_fall, cX11_fall, 4, some .int, 7, 170)
def f_X11_fall (x0 x1 x2 x3 : Int) : hf_M Int :=
  hf_bd (hf_gf 11 6 x0) (fun v1 => hf_cz v1 (¬ v1 = 0) (hf_bd (hf_gf 11 0 x0) (fun v11 => hf_bd (hf_ob 8 v11 (f_X8_hasStrength v11 x1)) (fun v15 => hf_cz v15 (v15 = 0) (hf_ret (-1)) (hf_cz x2 (x2 < 0) (hf_ret (-1)) (hf_bd (f_X11_isWithin x3 2) (fun v27 => hf_cz v27 (¬ v27 = 0) (hf_bd (hf_gf 11 7 x0) (fun v36 => hf_bd (hf_gf 11 0 x0) (fun v40 => hf_bd (hf_gf 11 4 x0) (fun v44 => hf_bd (hf_ob 6 v36 (f_X6_run v36 v40 v44 x1)) (fun _ => hf_bd (hf_gf 11 7 x0) (fun v52 => hf_bd (hf_gf 6 0 v52) (fun v55 => hf_bd (hf_ob 1 v55 (f_X1_recall v55 x2 x3)) (fun v60 => hf_ret v60)))))))) (hf_ret (-1)))))))) (hf_ret (-2)))
theorem cal_X11_fall : hf_cv M_X11_fall 11 3 := ⟨⟨ii_X11, kc_X11_fall, by decide, by decide, by decide +kernel⟩, ki_X11_fall, kv_X11_fall, _, rfl, rfl⟩
set_option maxRecDepth 20000 in
theorem c_X11_fall (x0 x1 x2 x3 : Int) : hf_Met M_X11_fall [2, 0, 0, 0] [x0, x1, x2, x3] (f_X11_fall x0 x1 x2 x3) := by
  refine hf_met rfl (by decide) (by decide) (by decide) ?_
  show hf_J M_X11_fall 0 [(0, 2, x0), (1, 0, x1), (2, 0, x2), (3, 0, x3)] [] _
  refine hf_ald_n (pc := 0) 0 rfl rfl dX11_fall_0 ?_
  refine hf_getf (pc := 1) fl_X11_41 dX11_fall_1 (fun v1 => ?_)
  refine hf_if_ne (pc := 4) 10 dX11_fall_4 rfl ?_ ?_
  · refine hf_ald_n (pc := 10) 0 rfl rfl dX11_fall_10 ?_
    refine hf_getf (pc := 11) fl_X11_10 dX11_fall_11 (fun v11 => ?_)
    refine hf_ild_n (pc := 14) 1 rfl rfl dX11_fall_14 ?_
    refine hf_cV (pc := 15) (N := M_X8_hasStrength) (ts := [0]) (vs := [x1]) (st := []) (fun r => [(0, r)]) (c_X8_hasStrength v11 x1) cal_X8_hasStrength ml_X11_120 ⟨hf_le rfl, hf_le rfl⟩ (hf_le rfl) ⟨rfl, rfl⟩ rfl dX11_fall_15 (fun _ => rfl) (fun v15 => ?_)
    refine hf_if_eq (pc := 18) 33 dX11_fall_18 rfl ?_ ?_
    · refine hf_iconst (pc := 33) dX11_fall_33 ?_
      exact hf_Jret (pc := 34) dX11_fall_34 (fun _ => rfl)
    · refine hf_ild_n (pc := 21) 2 rfl rfl dX11_fall_21 ?_
      refine hf_if_lt (pc := 22) 33 dX11_fall_22 rfl ?_ ?_
      · refine hf_iconst (pc := 33) dX11_fall_33 ?_
        exact hf_Jret (pc := 34) dX11_fall_34 (fun _ => rfl)
      · refine hf_ild_n (pc := 25) 3 rfl rfl dX11_fall_25 ?_
        refine hf_iconst (pc := 26) dX11_fall_26 ?_
        refine hf_cS (pc := 27) (N := M_X11_isWithin) (ts := [0, 0]) (vs := [x3, 2]) (st := []) (fun r => [(0, r)]) (c_X11_isWithin x3 2) cal_X11_isWithin ml_X11_108 ⟨hf_le rfl, hf_le rfl⟩ (hf_le rfl) ⟨rfl, rfl⟩ rfl dX11_fall_27 (fun _ => rfl) (fun v27 => ?_)
        refine hf_if_ne (pc := 30) 35 dX11_fall_30 rfl ?_ ?_
        · refine hf_ald_n (pc := 35) 0 rfl rfl dX11_fall_35 ?_
          refine hf_getf (pc := 36) fl_X11_48 dX11_fall_36 (fun v36 => ?_)
          refine hf_ald_n (pc := 39) 0 rfl rfl dX11_fall_39 ?_
          refine hf_getf (pc := 40) fl_X11_10 dX11_fall_40 (fun v40 => ?_)
          refine hf_ald_n (pc := 43) 0 rfl rfl dX11_fall_43 ?_
          refine hf_getf (pc := 44) fl_X11_34 dX11_fall_44 (fun v44 => ?_)
          refine hf_ild_n (pc := 47) 1 rfl rfl dX11_fall_47 ?_
          refine hf_cV (pc := 48) (N := M_X6_run) (ts := [2, 2, 0]) (vs := [v40, v44, x1]) (st := []) (fun r => []) (c_X6_run v36 v40 v44 x1) cal_X6_run ml_X11_167 ⟨hf_le rfl, hf_le rfl⟩ (hf_le rfl) ⟨rfl, rfl⟩ rfl dX11_fall_48 (fun _ => rfl) (fun _ => ?_)
          refine hf_ald_n (pc := 51) 0 rfl rfl dX11_fall_51 ?_
          refine hf_getf (pc := 52) fl_X11_48 dX11_fall_52 (fun v52 => ?_)
          refine hf_getf (pc := 55) fl_X11_174 dX11_fall_55 (fun v55 => ?_)
          refine hf_ild_n (pc := 58) 2 rfl rfl dX11_fall_58 ?_
          refine hf_ild_n (pc := 59) 3 rfl rfl dX11_fall_59 ?_
          refine hf_cV (pc := 60) (N := M_X1_recall) (ts := [0, 0]) (vs := [x2, x3]) (st := []) (fun r => [(0, r)]) (c_X1_recall v55 x2 x3) cal_X1_recall ml_X11_190 ⟨hf_le rfl, hf_le rfl⟩ (hf_le rfl) ⟨rfl, rfl⟩ rfl dX11_fall_60 (fun _ => rfl) (fun v60 => ?_)
          exact hf_Jret (pc := 63) dX11_fall_63 (fun _ => rfl)
        · refine hf_iconst (pc := 33) dX11_fall_33 ?_
          exact hf_Jret (pc := 34) dX11_fall_34 (fun _ => rfl)
  · refine hf_bipush (pc := 7) dX11_fall_7 (by decide) ?_
    exact hf_Jret (pc := 9) dX11_fall_9 (fun _ => rfl)
/-! HighFall.judge(I)J -/
def M_X11_judge : hf_D := (yX11_judge, cX11_judge, 7, some .long, 7, 170)
def f_X11_judge_95 (rec_28 : Int × Int → hf_M Int) (x0 x1 x4 s0 : Int) : hf_M Int :=
  hf_bd (hf_ret (x4 + 1)) (fun x4_96 => rec_28 (s0, x4_96))
def B_X11_judge_28 (x0 x1 : Int) (rec_28 : Int × Int → hf_M Int) (x2 x4 : Int) : hf_M Int :=
  hf_bd (hf_gf 11 0 x0) (fun v31 => hf_bd (hf_gf 8 0 v31) (fun v34 => hf_cb x4 v34 (v34 < x4) (hf_ret x2) (hf_bd (hf_gf 11 7 x0) (fun v41 => hf_bd (hf_gf 11 0 x0) (fun v45 => hf_bd (hf_gf 11 4 x0) (fun v49 => hf_bd (hf_ob 6 v41 (f_X6_run v41 v45 v49 x4)) (fun _ => hf_bd (hf_gf 11 7 x0) (fun v58 => hf_bd (hf_gf 11 0 x0) (fun v63 => hf_bd (hf_gf 8 6 v63) (fun v66 => hf_bd (hf_al 20 v66 x4) (fun v71 => hf_bd (hf_ob 6 v58 (f_X6_shareOf v58 x1 v71)) (fun v72 => hf_cb x1 2 (2 ≤ x1) (f_X11_judge_95 rec_28 x0 x1 x4 (x2 + v72)) (hf_ck (hf_inL x2 ∧ hf_inL v72) (hf_bd (hf_ret (max x2 v72)) (fun v85 => f_X11_judge_95 rec_28 x0 x1 x4 v85)))))))))))))))
def f_X11_judge_28 (x0 x1 x2 x4 : Int) : hf_M Int := hf_fx (fun rec s => B_X11_judge_28 x0 x1 rec s.1 s.2) hf_N (x2, x4)
def f_X11_judge (x0 x1 : Int) : hf_M Int :=
  hf_bd (hf_gf 11 6 x0) (fun v1 => hf_cz v1 (¬ v1 = 0) (hf_bd (f_X11_isWithin x1 5) (fun v13 => hf_cz v13 (¬ v13 = 0) (f_X11_judge_28 x0 x1 0 0) (hf_ret (-1)))) (hf_ret (-2)))
theorem cal_X11_judge : hf_cv M_X11_judge 11 1 := ⟨⟨ii_X11, kc_X11_judge, by decide, by decide, by decide +kernel⟩, ki_X11_judge, kv_X11_judge, _, rfl, rfl⟩
set_option maxRecDepth 20000 in
theorem j_X11_judge_95 (x0 x1 x4 s0 : Int) (rec_28 : Int × Int → hf_M Int) (hrec_28 : ∀ s : Int × Int, hf_J M_X11_judge 28 [(0, 2, x0), (1, 0, x1), (2, 1, s.1), (4, 0, s.2)] [] (rec_28 s)) : hf_J M_X11_judge 95 [(0, 2, x0), (1, 0, x1), (4, 0, x4)] [(1, s0)] (f_X11_judge_95 rec_28 x0 x1 x4 s0) := by
  refine hf_lst_n (pc := 95) (lv' := [(2, 1, s0), (0, 2, x0), (1, 0, x1), (4, 0, x4)]) rfl (by decide) rfl dX11_judge_95 ?_
  refine hf_iincB (pc := 96) (fun y => [(4, 0, y), (2, 1, s0), (0, 2, x0), (1, 0, x1)]) (q := 3) rfl (by decide) (fun _ => rfl) dX11_judge_96 (fun x4_96 => ?_)
  refine hf_goto (pc := 99) 28 dX11_judge_99 rfl ?_
  exact hf_sub [2, 3, 1, 0] rfl (hrec_28 (s0, x4_96))
set_option maxRecDepth 20000 in
theorem jb_X11_judge_28 (x0 x1 : Int) (rec_28 : Int × Int → hf_M Int) (hrec_28 : ∀ s : Int × Int, hf_J M_X11_judge 28 [(0, 2, x0), (1, 0, x1), (2, 1, s.1), (4, 0, s.2)] [] (rec_28 s)) (x2 x4 : Int) : hf_J M_X11_judge 28 [(0, 2, x0), (1, 0, x1), (2, 1, x2), (4, 0, x4)] [] (B_X11_judge_28 x0 x1 rec_28 x2 x4) := by
  refine hf_ild (pc := 28) 3 rfl dX11_judge_28 ?_
  refine hf_ald_n (pc := 30) 0 rfl rfl dX11_judge_30 ?_
  refine hf_getf (pc := 31) fl_X11_10 dX11_judge_31 (fun v31 => ?_)
  refine hf_getf (pc := 34) fl_X11_194 dX11_judge_34 (fun v34 => ?_)
  refine hf_icmp_gt (pc := 37) 102 dX11_judge_37 rfl ?_ ?_
  · refine hf_lld_n (pc := 102) 2 rfl rfl dX11_judge_102 ?_
    exact hf_Jret (pc := 103) dX11_judge_103 (fun _ => rfl)
  · refine hf_ald_n (pc := 40) 0 rfl rfl dX11_judge_40 ?_
    refine hf_getf (pc := 41) fl_X11_48 dX11_judge_41 (fun v41 => ?_)
    refine hf_ald_n (pc := 44) 0 rfl rfl dX11_judge_44 ?_
    refine hf_getf (pc := 45) fl_X11_10 dX11_judge_45 (fun v45 => ?_)
    refine hf_ald_n (pc := 48) 0 rfl rfl dX11_judge_48 ?_
    refine hf_getf (pc := 49) fl_X11_34 dX11_judge_49 (fun v49 => ?_)
    refine hf_ild (pc := 52) 3 rfl dX11_judge_52 ?_
    refine hf_cV (pc := 54) (N := M_X6_run) (ts := [2, 2, 0]) (vs := [v45, v49, x4]) (st := []) (fun r => []) (c_X6_run v41 v45 v49 x4) cal_X6_run ml_X11_167 ⟨hf_le rfl, hf_le rfl⟩ (hf_le rfl) ⟨rfl, rfl⟩ rfl dX11_judge_54 (fun _ => rfl) (fun _ => ?_)
    refine hf_ald_n (pc := 57) 0 rfl rfl dX11_judge_57 ?_
    refine hf_getf (pc := 58) fl_X11_48 dX11_judge_58 (fun v58 => ?_)
    refine hf_ild_n (pc := 61) 1 rfl rfl dX11_judge_61 ?_
    refine hf_ald_n (pc := 62) 0 rfl rfl dX11_judge_62 ?_
    refine hf_getf (pc := 63) fl_X11_10 dX11_judge_63 (fun v63 => ?_)
    refine hf_getf (pc := 66) fl_X11_147 dX11_judge_66 (fun v66 => ?_)
    refine hf_ild (pc := 69) 3 rfl dX11_judge_69 ?_
    refine hf_iald (pc := 71) dX11_judge_71 (fun v71 => ?_)
    refine hf_cV (pc := 72) (N := M_X6_shareOf) (ts := [0, 0]) (vs := [x1, v71]) (st := []) (fun r => [(1, r)]) (c_X6_shareOf v58 x1 v71) cal_X6_shareOf ml_X11_197 ⟨hf_le rfl, hf_le rfl⟩ (hf_le rfl) ⟨rfl, rfl⟩ rfl dX11_judge_72 (fun _ => rfl) (fun v72 => ?_)
    refine hf_lst (pc := 75) (lv' := [(5, 1, v72), (0, 2, x0), (1, 0, x1), (2, 1, x2), (4, 0, x4)]) (by decide) rfl dX11_judge_75 ?_
    refine hf_ild_n (pc := 77) 2 rfl rfl dX11_judge_77 ?_
    refine hf_iconst (pc := 78) dX11_judge_78 ?_
    refine hf_icmp_ge (pc := 79) 91 dX11_judge_79 rfl ?_ ?_
    · refine hf_lld_n (pc := 91) 3 rfl rfl dX11_judge_91 ?_
      refine hf_lld (pc := 92) 0 rfl dX11_judge_92 ?_
      refine hf_ladd (pc := 94) dX11_judge_94 ?_
      exact hf_sub [1, 2, 4] rfl (j_X11_judge_95 x0 x1 x4 (x2 + v72) rec_28 hrec_28)
    · refine hf_lld_n (pc := 82) 3 rfl rfl dX11_judge_82 ?_
      refine hf_lld (pc := 83) 0 rfl dX11_judge_83 ?_
      refine hf_mmaxl (pc := 85) ml_X11_201 ⟨hf_le rfl, hf_le rfl⟩ dX11_judge_85 (fun v85 => ?_)
      refine hf_goto (pc := 88) 95 dX11_judge_88 rfl ?_
      exact hf_sub [1, 2, 4] rfl (j_X11_judge_95 x0 x1 x4 v85 rec_28 hrec_28)
set_option maxRecDepth 20000 in
theorem j_X11_judge_28 (x0 x1 x2 x4 : Int) : hf_J M_X11_judge 28 [(0, 2, x0), (1, 0, x1), (2, 1, x2), (4, 0, x4)] [] (f_X11_judge_28 x0 x1 x2 x4) :=
  hf_Jfx (L := fun s => [(0, 2, x0), (1, 0, x1), (2, 1, s.1), (4, 0, s.2)]) (fun rec hrec s => jb_X11_judge_28 x0 x1 rec hrec s.1 s.2) hf_N (x2, x4)
set_option maxRecDepth 20000 in
theorem c_X11_judge (x0 x1 : Int) : hf_Met M_X11_judge [2, 0] [x0, x1] (f_X11_judge x0 x1) := by
  refine hf_met rfl (by decide) (by decide) (by decide) ?_
  show hf_J M_X11_judge 0 [(0, 2, x0), (1, 0, x1)] [] _
  refine hf_ald_n (pc := 0) 0 rfl rfl dX11_judge_0 ?_
  refine hf_getf (pc := 1) fl_X11_41 dX11_judge_1 (fun v1 => ?_)
  refine hf_if_ne (pc := 4) 11 dX11_judge_4 rfl ?_ ?_
  · refine hf_ild_n (pc := 11) 1 rfl rfl dX11_judge_11 ?_
    refine hf_iconst (pc := 12) dX11_judge_12 ?_
    refine hf_cS (pc := 13) (N := M_X11_isWithin) (ts := [0, 0]) (vs := [x1, 5]) (st := []) (fun r => [(0, r)]) (c_X11_isWithin x1 5) cal_X11_isWithin ml_X11_108 ⟨hf_le rfl, hf_le rfl⟩ (hf_le rfl) ⟨rfl, rfl⟩ rfl dX11_judge_13 (fun _ => rfl) (fun v13 => ?_)
    refine hf_if_ne (pc := 16) 23 dX11_judge_16 rfl ?_ ?_
    · refine hf_lconst (pc := 23) (v := 0) dX11_judge_23 (by decide) ?_
      refine hf_lst_n (pc := 24) (lv' := [(2, 1, 0), (0, 2, x0), (1, 0, x1)]) rfl (by decide) rfl dX11_judge_24 ?_
      refine hf_iconst (pc := 25) dX11_judge_25 ?_
      refine hf_ist (pc := 26) (lv' := [(4, 0, 0), (2, 1, 0), (0, 2, x0), (1, 0, x1)]) (by decide) rfl dX11_judge_26 ?_
      exact hf_sub [2, 3, 1, 0] rfl (j_X11_judge_28 x0 x1 0 0)
    · refine hf_ldc2 (pc := 19) (n := (-1)) co_X11_165 (by decide) dX11_judge_19 ?_
      exact hf_Jret (pc := 22) dX11_judge_22 (fun _ => rfl)
  · refine hf_ldc2 (pc := 7) (n := (-2)) co_X11_163 (by decide) dX11_judge_7 ?_
    exact hf_Jret (pc := 10) dX11_judge_10 (fun _ => rfl)
/-! HighFall.best(I)J -/
def M_X11_best : hf_D := (yX11_best, cX11_best, 2, some .long, 6, 157)
def f_X11_best (x0 x1 : Int) : hf_M Int :=
  hf_bd (f_X11_isWithin x1 3) (fun v2 => hf_cz v2 (¬ v2 = 0) (hf_bd (hf_gf 11 8 x0) (fun v13 => hf_bd (hf_gf 11 0 x0) (fun v17 => hf_bd (hf_ob 0 v13 (f_X0_prepare v13 v17 x1)) (fun _ => hf_bd (hf_gf 11 8 x0) (fun v25 => hf_bd (hf_gf 11 0 x0) (fun v30 => hf_bd (hf_gf 8 0 v30) (fun v33 => hf_bd (hf_gf 11 0 x0) (fun v37 => hf_bd (hf_ob 8 v37 (f_X8_allPieces v37)) (fun v40 => hf_bd (hf_ob 0 v25 (f_X0_valueOf v25 0 v33 v40)) (fun v43 => hf_ret v43)))))))))) (hf_ret (-1)))
theorem cal_X11_best : hf_cv M_X11_best 11 1 := ⟨⟨ii_X11, kc_X11_best, by decide, by decide, by decide +kernel⟩, ki_X11_best, kv_X11_best, _, rfl, rfl⟩
set_option maxRecDepth 20000 in
theorem c_X11_best (x0 x1 : Int) : hf_Met M_X11_best [2, 0] [x0, x1] (f_X11_best x0 x1) := by
  refine hf_met rfl (by decide) (by decide) (by decide) ?_
  show hf_J M_X11_best 0 [(0, 2, x0), (1, 0, x1)] [] _
  refine hf_ild_n (pc := 0) 1 rfl rfl dX11_best_0 ?_
  refine hf_iconst (pc := 1) dX11_best_1 ?_
  refine hf_cS (pc := 2) (N := M_X11_isWithin) (ts := [0, 0]) (vs := [x1, 3]) (st := []) (fun r => [(0, r)]) (c_X11_isWithin x1 3) cal_X11_isWithin ml_X11_108 ⟨hf_le rfl, hf_le rfl⟩ (hf_le rfl) ⟨rfl, rfl⟩ rfl dX11_best_2 (fun _ => rfl) (fun v2 => ?_)
  refine hf_if_ne (pc := 5) 12 dX11_best_5 rfl ?_ ?_
  · refine hf_ald_n (pc := 12) 0 rfl rfl dX11_best_12 ?_
    refine hf_getf (pc := 13) fl_X11_55 dX11_best_13 (fun v13 => ?_)
    refine hf_ald_n (pc := 16) 0 rfl rfl dX11_best_16 ?_
    refine hf_getf (pc := 17) fl_X11_10 dX11_best_17 (fun v17 => ?_)
    refine hf_ild_n (pc := 20) 1 rfl rfl dX11_best_20 ?_
    refine hf_cV (pc := 21) (N := M_X0_prepare) (ts := [2, 0]) (vs := [v17, x1]) (st := []) (fun r => []) (c_X0_prepare v13 v17 x1) cal_X0_prepare ml_X11_207 ⟨hf_le rfl, hf_le rfl⟩ (hf_le rfl) ⟨rfl, rfl⟩ rfl dX11_best_21 (fun _ => rfl) (fun _ => ?_)
    refine hf_ald_n (pc := 24) 0 rfl rfl dX11_best_24 ?_
    refine hf_getf (pc := 25) fl_X11_55 dX11_best_25 (fun v25 => ?_)
    refine hf_iconst (pc := 28) dX11_best_28 ?_
    refine hf_ald_n (pc := 29) 0 rfl rfl dX11_best_29 ?_
    refine hf_getf (pc := 30) fl_X11_10 dX11_best_30 (fun v30 => ?_)
    refine hf_getf (pc := 33) fl_X11_194 dX11_best_33 (fun v33 => ?_)
    refine hf_ald_n (pc := 36) 0 rfl rfl dX11_best_36 ?_
    refine hf_getf (pc := 37) fl_X11_10 dX11_best_37 (fun v37 => ?_)
    refine hf_cV (pc := 40) (N := M_X8_allPieces) (ts := []) (vs := []) (st := [(0, v33), (0, 0), (2, v25)]) (fun r => [(0, r), (0, v33), (0, 0), (2, v25)]) (c_X8_allPieces v37) cal_X8_allPieces ml_X11_211 ⟨hf_le rfl, hf_le rfl⟩ (hf_le rfl) ⟨rfl, rfl⟩ rfl dX11_best_40 (fun _ => rfl) (fun v40 => ?_)
    refine hf_cV (pc := 43) (N := M_X0_valueOf) (ts := [0, 0, 0]) (vs := [0, v33, v40]) (st := []) (fun r => [(1, r)]) (c_X0_valueOf v25 0 v33 v40) cal_X0_valueOf ml_X11_215 ⟨hf_le rfl, hf_le rfl⟩ (hf_le rfl) ⟨rfl, rfl⟩ rfl dX11_best_43 (fun _ => rfl) (fun v43 => ?_)
    exact hf_Jret (pc := 46) dX11_best_46 (fun _ => rfl)
  · refine hf_ldc2 (pc := 8) (n := (-1)) co_X11_165 (by decide) dX11_best_8 ?_
    exact hf_Jret (pc := 11) dX11_best_11 (fun _ => rfl)
/-! HighFall.next(IIIII)J -/
def M_X11_next : hf_D := (yX11_next, cX11_next, 8, some .long, 6, 157)
def f_X11_next_47 : hf_M Int :=
  hf_ret (-1)
def f_X11_next (x0 x1 x2 x3 x4 x5 : Int) : hf_M Int :=
  hf_bd (f_X11_isWithin x1 3) (fun v2 => hf_cz v2 (v2 = 0) (f_X11_next_47) (hf_cz x2 (x2 < 0) (f_X11_next_47) (hf_cb x2 x3 (x3 < x2) (f_X11_next_47) (hf_bd (hf_gf 11 0 x0) (fun v19 => hf_bd (hf_gf 8 0 v19) (fun v22 => hf_cb x3 v22 (v22 < x3) (f_X11_next_47) (hf_bd (f_X11_isWithin x4 124) (fun v32 => hf_cz v32 (v32 = 0) (f_X11_next_47) (hf_bd (f_X11_isWithin x5 2) (fun v41 => hf_cz v41 (¬ v41 = 0) (hf_bd (hf_gf 11 8 x0) (fun v52 => hf_bd (hf_gf 11 0 x0) (fun v56 => hf_bd (hf_ob 0 v52 (f_X0_prepare v52 v56 x1)) (fun _ => hf_bd (hf_gf 11 8 x0) (fun v64 => hf_bd (hf_ob 0 v64 (f_X0_valueOf v64 x2 x3 x4)) (fun v71 => hf_ck (hf_inI x5) (hf_it (x5 = 0) (hf_ret v71) (hf_it (x5 = 1) (hf_bd (hf_gf 11 8 x0) (fun v108 => hf_bd (hf_gf 0 16 v108) (fun v111 => hf_ck (hf_inI v111) (hf_ret v111)))) (hf_bd (hf_gf 11 8 x0) (fun v117 => hf_bd (hf_gf 0 17 v117) (fun v120 => hf_ck (hf_inI v120) (hf_ret v120)))))))))))) (f_X11_next_47)))))))))))
theorem cal_X11_next : hf_cv M_X11_next 11 5 := ⟨⟨ii_X11, kc_X11_next, by decide, by decide, by decide +kernel⟩, ki_X11_next, kv_X11_next, _, rfl, rfl⟩
set_option maxRecDepth 20000 in
theorem j_X11_next_47 : hf_J M_X11_next 47 [] [] (f_X11_next_47) := by
  refine hf_ldc2 (pc := 47) (n := (-1)) co_X11_165 (by decide) dX11_next_47 ?_
  exact hf_Jret (pc := 50) dX11_next_50 (fun _ => rfl)
set_option maxRecDepth 20000 in
theorem c_X11_next (x0 x1 x2 x3 x4 x5 : Int) : hf_Met M_X11_next [2, 0, 0, 0, 0, 0] [x0, x1, x2, x3, x4, x5] (f_X11_next x0 x1 x2 x3 x4 x5) := by
  refine hf_met rfl (by decide) (by decide) (by decide) ?_
  show hf_J M_X11_next 0 [(0, 2, x0), (1, 0, x1), (2, 0, x2), (3, 0, x3), (4, 0, x4), (5, 0, x5)] [] _
  refine hf_ild_n (pc := 0) 1 rfl rfl dX11_next_0 ?_
  refine hf_iconst (pc := 1) dX11_next_1 ?_
  refine hf_cS (pc := 2) (N := M_X11_isWithin) (ts := [0, 0]) (vs := [x1, 3]) (st := []) (fun r => [(0, r)]) (c_X11_isWithin x1 3) cal_X11_isWithin ml_X11_108 ⟨hf_le rfl, hf_le rfl⟩ (hf_le rfl) ⟨rfl, rfl⟩ rfl dX11_next_2 (fun _ => rfl) (fun v2 => ?_)
  refine hf_if_eq (pc := 5) 47 dX11_next_5 rfl ?_ ?_
  · exact hf_sub [] rfl j_X11_next_47
  · refine hf_ild_n (pc := 8) 2 rfl rfl dX11_next_8 ?_
    refine hf_if_lt (pc := 9) 47 dX11_next_9 rfl ?_ ?_
    · exact hf_sub [] rfl j_X11_next_47
    · refine hf_ild_n (pc := 12) 2 rfl rfl dX11_next_12 ?_
      refine hf_ild_n (pc := 13) 3 rfl rfl dX11_next_13 ?_
      refine hf_icmp_gt (pc := 14) 47 dX11_next_14 rfl ?_ ?_
      · exact hf_sub [] rfl j_X11_next_47
      · refine hf_ild_n (pc := 17) 3 rfl rfl dX11_next_17 ?_
        refine hf_ald_n (pc := 18) 0 rfl rfl dX11_next_18 ?_
        refine hf_getf (pc := 19) fl_X11_10 dX11_next_19 (fun v19 => ?_)
        refine hf_getf (pc := 22) fl_X11_194 dX11_next_22 (fun v22 => ?_)
        refine hf_icmp_gt (pc := 25) 47 dX11_next_25 rfl ?_ ?_
        · exact hf_sub [] rfl j_X11_next_47
        · refine hf_ild (pc := 28) 4 rfl dX11_next_28 ?_
          refine hf_bipush (pc := 30) dX11_next_30 (by decide) ?_
          refine hf_cS (pc := 32) (N := M_X11_isWithin) (ts := [0, 0]) (vs := [x4, 124]) (st := []) (fun r => [(0, r)]) (c_X11_isWithin x4 124) cal_X11_isWithin ml_X11_108 ⟨hf_le rfl, hf_le rfl⟩ (hf_le rfl) ⟨rfl, rfl⟩ rfl dX11_next_32 (fun _ => rfl) (fun v32 => ?_)
          refine hf_if_eq (pc := 35) 47 dX11_next_35 rfl ?_ ?_
          · exact hf_sub [] rfl j_X11_next_47
          · refine hf_ild (pc := 38) 5 rfl dX11_next_38 ?_
            refine hf_iconst (pc := 40) dX11_next_40 ?_
            refine hf_cS (pc := 41) (N := M_X11_isWithin) (ts := [0, 0]) (vs := [x5, 2]) (st := []) (fun r => [(0, r)]) (c_X11_isWithin x5 2) cal_X11_isWithin ml_X11_108 ⟨hf_le rfl, hf_le rfl⟩ (hf_le rfl) ⟨rfl, rfl⟩ rfl dX11_next_41 (fun _ => rfl) (fun v41 => ?_)
            refine hf_if_ne (pc := 44) 51 dX11_next_44 rfl ?_ ?_
            · refine hf_ald_n (pc := 51) 0 rfl rfl dX11_next_51 ?_
              refine hf_getf (pc := 52) fl_X11_55 dX11_next_52 (fun v52 => ?_)
              refine hf_ald_n (pc := 55) 0 rfl rfl dX11_next_55 ?_
              refine hf_getf (pc := 56) fl_X11_10 dX11_next_56 (fun v56 => ?_)
              refine hf_ild_n (pc := 59) 1 rfl rfl dX11_next_59 ?_
              refine hf_cV (pc := 60) (N := M_X0_prepare) (ts := [2, 0]) (vs := [v56, x1]) (st := []) (fun r => []) (c_X0_prepare v52 v56 x1) cal_X0_prepare ml_X11_207 ⟨hf_le rfl, hf_le rfl⟩ (hf_le rfl) ⟨rfl, rfl⟩ rfl dX11_next_60 (fun _ => rfl) (fun _ => ?_)
              refine hf_ald_n (pc := 63) 0 rfl rfl dX11_next_63 ?_
              refine hf_getf (pc := 64) fl_X11_55 dX11_next_64 (fun v64 => ?_)
              refine hf_ild_n (pc := 67) 2 rfl rfl dX11_next_67 ?_
              refine hf_ild_n (pc := 68) 3 rfl rfl dX11_next_68 ?_
              refine hf_ild (pc := 69) 4 rfl dX11_next_69 ?_
              refine hf_cV (pc := 71) (N := M_X0_valueOf) (ts := [0, 0, 0]) (vs := [x2, x3, x4]) (st := []) (fun r => [(1, r)]) (c_X0_valueOf v64 x2 x3 x4) cal_X0_valueOf ml_X11_215 ⟨hf_le rfl, hf_le rfl⟩ (hf_le rfl) ⟨rfl, rfl⟩ rfl dX11_next_71 (fun _ => rfl) (fun v71 => ?_)
              refine hf_lst (pc := 74) (lv' := [(6, 1, v71), (0, 2, x0), (1, 0, x1), (2, 0, x2), (3, 0, x3), (4, 0, x4), (5, 0, x5)]) (by decide) rfl dX11_next_74 ?_
              refine hf_ild (pc := 76) 6 rfl dX11_next_76 ?_
              refine hf_Jck (fun hr => ?_)
              refine hf_Jit (fun hc0 => ?_) (fun hc0 => ?_)
              · refine hf_lsw (pc := 78) (off := 26) 104 hr dX11_next_78 (by decide) (by rw [hc0]; rfl) rfl ?_
                refine hf_lld (pc := 104) 0 rfl dX11_next_104 ?_
                exact hf_Jret (pc := 106) dX11_next_106 (fun _ => rfl)
              · refine hf_Jit (fun hc1 => ?_) (fun hc1 => ?_)
                · refine hf_lsw (pc := 78) (off := 29) 107 hr dX11_next_78 (by decide) (by rw [hc1]; rfl) rfl ?_
                  refine hf_ald_n (pc := 107) 1 rfl rfl dX11_next_107 ?_
                  refine hf_getf (pc := 108) fl_X11_55 dX11_next_108 (fun v108 => ?_)
                  refine hf_getf (pc := 111) fl_X11_219 dX11_next_111 (fun v111 => ?_)
                  refine hf_i2l (pc := 114) dX11_next_114 ?_
                  exact hf_Jret (pc := 115) dX11_next_115 (fun _ => rfl)
                · refine hf_lsw (pc := 78) (off := 38) 116 hr dX11_next_78 (by decide) (by simp [Op.lookupswitch.offset, Ne.symm, hc0, hc1]) rfl ?_
                  refine hf_ald_n (pc := 116) 1 rfl rfl dX11_next_116 ?_
                  refine hf_getf (pc := 117) fl_X11_55 dX11_next_117 (fun v117 => ?_)
                  refine hf_getf (pc := 120) fl_X11_222 dX11_next_120 (fun v120 => ?_)
                  refine hf_i2l (pc := 123) dX11_next_123 ?_
                  exact hf_Jret (pc := 124) dX11_next_124 (fun _ => rfl)
            · exact hf_sub [] rfl j_X11_next_47
/-! HighFall.edge(II)I -/
def M_X11_edge : hf_D := (yX11_edge, cX11_edge, 3, some .int, 7, 187)
def f_X11_edge (x0 x1 x2 : Int) : hf_M Int :=
  hf_bd (hf_gf 11 0 x0) (fun v1 => hf_bd (hf_ob 8 v1 (f_X8_hasKind v1 x1)) (fun v5 => hf_cz v5 (v5 = 0) (hf_ret (-1)) (hf_bd (f_X11_isWithin x2 3) (fun v13 => hf_cz v13 (¬ v13 = 0) (hf_bd (hf_gf 11 8 x0) (fun v22 => hf_bd (hf_gf 11 0 x0) (fun v26 => hf_bd (hf_ob 0 v22 (f_X0_prepare v22 v26 x2)) (fun _ => hf_bd (hf_gf 11 8 x0) (fun v34 => hf_bd (hf_gf 11 0 x0) (fun v39 => hf_bd (hf_gf 8 0 v39) (fun v42 => hf_bd (hf_gf 11 0 x0) (fun v46 => hf_bd (hf_ob 8 v46 (f_X8_allPieces v46)) (fun v49 => hf_bd (hf_ob 0 v34 (f_X0_valueOf v34 0 v42 v49)) (fun v52 => hf_cl v52 0 (v52 < 0) (hf_ret (-2)) (hf_bd (hf_gf 11 8 x0) (fun v61 => hf_bd (hf_gf 0 16 v61) (fun v64 => hf_cb v64 (-1) (¬ v64 = (-1)) (hf_cb x2 2 (x2 < 2) (hf_ret 100) (hf_bd (hf_gf 11 0 x0) (fun v80 => hf_bd (hf_gf 8 2 v80) (fun v83 => hf_bd (hf_al 20 v83 x1) (fun v87 => hf_cz v87 (¬ v87 = 0) (hf_bd (hf_gf 11 8 x0) (fun v95 => hf_bd (hf_gf 11 0 x0) (fun v100 => hf_bd (hf_ob 8 v100 (f_X8_allPieces v100)) (fun v103 => hf_bd (hf_ob 0 v95 (f_X0_edgeOf v95 x1 v103)) (fun v106 => hf_ret v106))))) (hf_ret 100)))))) (hf_ret (-2))))))))))))))) (hf_ret (-1))))))
theorem cal_X11_edge : hf_cv M_X11_edge 11 2 := ⟨⟨ii_X11, kc_X11_edge, by decide, by decide, by decide +kernel⟩, ki_X11_edge, kv_X11_edge, _, rfl, rfl⟩
set_option maxRecDepth 20000 in
theorem c_X11_edge (x0 x1 x2 : Int) : hf_Met M_X11_edge [2, 0, 0] [x0, x1, x2] (f_X11_edge x0 x1 x2) := by
  refine hf_met rfl (by decide) (by decide) (by decide) ?_
  show hf_J M_X11_edge 0 [(0, 2, x0), (1, 0, x1), (2, 0, x2)] [] _
  refine hf_ald_n (pc := 0) 0 rfl rfl dX11_edge_0 ?_
  refine hf_getf (pc := 1) fl_X11_10 dX11_edge_1 (fun v1 => ?_)
  refine hf_ild_n (pc := 4) 1 rfl rfl dX11_edge_4 ?_
  refine hf_cV (pc := 5) (N := M_X8_hasKind) (ts := [0]) (vs := [x1]) (st := []) (fun r => [(0, r)]) (c_X8_hasKind v1 x1) cal_X8_hasKind ml_X11_104 ⟨hf_le rfl, hf_le rfl⟩ (hf_le rfl) ⟨rfl, rfl⟩ rfl dX11_edge_5 (fun _ => rfl) (fun v5 => ?_)
  refine hf_if_eq (pc := 8) 19 dX11_edge_8 rfl ?_ ?_
  · refine hf_iconst (pc := 19) dX11_edge_19 ?_
    exact hf_Jret (pc := 20) dX11_edge_20 (fun _ => rfl)
  · refine hf_ild_n (pc := 11) 2 rfl rfl dX11_edge_11 ?_
    refine hf_iconst (pc := 12) dX11_edge_12 ?_
    refine hf_cS (pc := 13) (N := M_X11_isWithin) (ts := [0, 0]) (vs := [x2, 3]) (st := []) (fun r => [(0, r)]) (c_X11_isWithin x2 3) cal_X11_isWithin ml_X11_108 ⟨hf_le rfl, hf_le rfl⟩ (hf_le rfl) ⟨rfl, rfl⟩ rfl dX11_edge_13 (fun _ => rfl) (fun v13 => ?_)
    refine hf_if_ne (pc := 16) 21 dX11_edge_16 rfl ?_ ?_
    · refine hf_ald_n (pc := 21) 0 rfl rfl dX11_edge_21 ?_
      refine hf_getf (pc := 22) fl_X11_55 dX11_edge_22 (fun v22 => ?_)
      refine hf_ald_n (pc := 25) 0 rfl rfl dX11_edge_25 ?_
      refine hf_getf (pc := 26) fl_X11_10 dX11_edge_26 (fun v26 => ?_)
      refine hf_ild_n (pc := 29) 2 rfl rfl dX11_edge_29 ?_
      refine hf_cV (pc := 30) (N := M_X0_prepare) (ts := [2, 0]) (vs := [v26, x2]) (st := []) (fun r => []) (c_X0_prepare v22 v26 x2) cal_X0_prepare ml_X11_207 ⟨hf_le rfl, hf_le rfl⟩ (hf_le rfl) ⟨rfl, rfl⟩ rfl dX11_edge_30 (fun _ => rfl) (fun _ => ?_)
      refine hf_ald_n (pc := 33) 0 rfl rfl dX11_edge_33 ?_
      refine hf_getf (pc := 34) fl_X11_55 dX11_edge_34 (fun v34 => ?_)
      refine hf_iconst (pc := 37) dX11_edge_37 ?_
      refine hf_ald_n (pc := 38) 0 rfl rfl dX11_edge_38 ?_
      refine hf_getf (pc := 39) fl_X11_10 dX11_edge_39 (fun v39 => ?_)
      refine hf_getf (pc := 42) fl_X11_194 dX11_edge_42 (fun v42 => ?_)
      refine hf_ald_n (pc := 45) 0 rfl rfl dX11_edge_45 ?_
      refine hf_getf (pc := 46) fl_X11_10 dX11_edge_46 (fun v46 => ?_)
      refine hf_cV (pc := 49) (N := M_X8_allPieces) (ts := []) (vs := []) (st := [(0, v42), (0, 0), (2, v34)]) (fun r => [(0, r), (0, v42), (0, 0), (2, v34)]) (c_X8_allPieces v46) cal_X8_allPieces ml_X11_211 ⟨hf_le rfl, hf_le rfl⟩ (hf_le rfl) ⟨rfl, rfl⟩ rfl dX11_edge_49 (fun _ => rfl) (fun v49 => ?_)
      refine hf_cV (pc := 52) (N := M_X0_valueOf) (ts := [0, 0, 0]) (vs := [0, v42, v49]) (st := []) (fun r => [(1, r)]) (c_X0_valueOf v34 0 v42 v49) cal_X0_valueOf ml_X11_215 ⟨hf_le rfl, hf_le rfl⟩ (hf_le rfl) ⟨rfl, rfl⟩ rfl dX11_edge_52 (fun _ => rfl) (fun v52 => ?_)
      refine hf_lconst (pc := 55) (v := 0) dX11_edge_55 (by decide) ?_
      refine hf_lcm_lt (pc := 56) 71 dX11_edge_56 dX11_edge_57 rfl ?_ ?_
      · refine hf_bipush (pc := 71) dX11_edge_71 (by decide) ?_
        exact hf_Jret (pc := 73) dX11_edge_73 (fun _ => rfl)
      · refine hf_ald_n (pc := 60) 0 rfl rfl dX11_edge_60 ?_
        refine hf_getf (pc := 61) fl_X11_55 dX11_edge_61 (fun v61 => ?_)
        refine hf_getf (pc := 64) fl_X11_219 dX11_edge_64 (fun v64 => ?_)
        refine hf_iconst (pc := 67) dX11_edge_67 ?_
        refine hf_icmp_ne (pc := 68) 74 dX11_edge_68 rfl ?_ ?_
        · refine hf_ild_n (pc := 74) 2 rfl rfl dX11_edge_74 ?_
          refine hf_iconst (pc := 75) dX11_edge_75 ?_
          refine hf_icmp_lt (pc := 76) 91 dX11_edge_76 rfl ?_ ?_
          · refine hf_bipush (pc := 91) dX11_edge_91 (by decide) ?_
            exact hf_Jret (pc := 93) dX11_edge_93 (fun _ => rfl)
          · refine hf_ald_n (pc := 79) 0 rfl rfl dX11_edge_79 ?_
            refine hf_getf (pc := 80) fl_X11_10 dX11_edge_80 (fun v80 => ?_)
            refine hf_getf (pc := 83) fl_X11_136 dX11_edge_83 (fun v83 => ?_)
            refine hf_ild_n (pc := 86) 1 rfl rfl dX11_edge_86 ?_
            refine hf_iald (pc := 87) dX11_edge_87 (fun v87 => ?_)
            refine hf_if_ne (pc := 88) 94 dX11_edge_88 rfl ?_ ?_
            · refine hf_ald_n (pc := 94) 0 rfl rfl dX11_edge_94 ?_
              refine hf_getf (pc := 95) fl_X11_55 dX11_edge_95 (fun v95 => ?_)
              refine hf_ild_n (pc := 98) 1 rfl rfl dX11_edge_98 ?_
              refine hf_ald_n (pc := 99) 0 rfl rfl dX11_edge_99 ?_
              refine hf_getf (pc := 100) fl_X11_10 dX11_edge_100 (fun v100 => ?_)
              refine hf_cV (pc := 103) (N := M_X8_allPieces) (ts := []) (vs := []) (st := [(0, x1), (2, v95)]) (fun r => [(0, r), (0, x1), (2, v95)]) (c_X8_allPieces v100) cal_X8_allPieces ml_X11_211 ⟨hf_le rfl, hf_le rfl⟩ (hf_le rfl) ⟨rfl, rfl⟩ rfl dX11_edge_103 (fun _ => rfl) (fun v103 => ?_)
              refine hf_cV (pc := 106) (N := M_X0_edgeOf) (ts := [0, 0]) (vs := [x1, v103]) (st := []) (fun r => [(0, r)]) (c_X0_edgeOf v95 x1 v103) cal_X0_edgeOf ml_X11_225 ⟨hf_le rfl, hf_le rfl⟩ (hf_le rfl) ⟨rfl, rfl⟩ rfl dX11_edge_106 (fun _ => rfl) (fun v106 => ?_)
              exact hf_Jret (pc := 109) dX11_edge_109 (fun _ => rfl)
            · refine hf_bipush (pc := 91) dX11_edge_91 (by decide) ?_
              exact hf_Jret (pc := 93) dX11_edge_93 (fun _ => rfl)
        · refine hf_bipush (pc := 71) dX11_edge_71 (by decide) ?_
          exact hf_Jret (pc := 73) dX11_edge_73 (fun _ => rfl)
    · refine hf_iconst (pc := 19) dX11_edge_19 ?_
      exact hf_Jret (pc := 20) dX11_edge_20 (fun _ => rfl)
/-! HighFall.weak(II)I -/
def M_X11_weak : hf_D := (yX11_weak, cX11_weak, 3, some .int, 4, 102)
def f_X11_weak (x0 x1 x2 : Int) : hf_M Int :=
  hf_cb x1 1 (x1 < 1) (hf_ret (-1)) (hf_cb x1 4 (4 < x1) (hf_ret (-1)) (hf_bd (f_X11_isWithin x2 3) (fun v12 => hf_cz v12 (¬ v12 = 0) (hf_bd (hf_gf 11 9 x0) (fun v21 => hf_bd (hf_gf 11 0 x0) (fun v25 => hf_bd (hf_ob 10 v21 (f_X10_fewestFalls v21 v25 x1 x2)) (fun v30 => hf_ret v30)))) (hf_ret (-1)))))
theorem cal_X11_weak : hf_cv M_X11_weak 11 2 := ⟨⟨ii_X11, kc_X11_weak, by decide, by decide, by decide +kernel⟩, ki_X11_weak, kv_X11_weak, _, rfl, rfl⟩
set_option maxRecDepth 20000 in
theorem c_X11_weak (x0 x1 x2 : Int) : hf_Met M_X11_weak [2, 0, 0] [x0, x1, x2] (f_X11_weak x0 x1 x2) := by
  refine hf_met rfl (by decide) (by decide) (by decide) ?_
  show hf_J M_X11_weak 0 [(0, 2, x0), (1, 0, x1), (2, 0, x2)] [] _
  refine hf_ild_n (pc := 0) 1 rfl rfl dX11_weak_0 ?_
  refine hf_iconst (pc := 1) dX11_weak_1 ?_
  refine hf_icmp_lt (pc := 2) 18 dX11_weak_2 rfl ?_ ?_
  · refine hf_iconst (pc := 18) dX11_weak_18 ?_
    exact hf_Jret (pc := 19) dX11_weak_19 (fun _ => rfl)
  · refine hf_ild_n (pc := 5) 1 rfl rfl dX11_weak_5 ?_
    refine hf_iconst (pc := 6) dX11_weak_6 ?_
    refine hf_icmp_gt (pc := 7) 18 dX11_weak_7 rfl ?_ ?_
    · refine hf_iconst (pc := 18) dX11_weak_18 ?_
      exact hf_Jret (pc := 19) dX11_weak_19 (fun _ => rfl)
    · refine hf_ild_n (pc := 10) 2 rfl rfl dX11_weak_10 ?_
      refine hf_iconst (pc := 11) dX11_weak_11 ?_
      refine hf_cS (pc := 12) (N := M_X11_isWithin) (ts := [0, 0]) (vs := [x2, 3]) (st := []) (fun r => [(0, r)]) (c_X11_isWithin x2 3) cal_X11_isWithin ml_X11_108 ⟨hf_le rfl, hf_le rfl⟩ (hf_le rfl) ⟨rfl, rfl⟩ rfl dX11_weak_12 (fun _ => rfl) (fun v12 => ?_)
      refine hf_if_ne (pc := 15) 20 dX11_weak_15 rfl ?_ ?_
      · refine hf_ald_n (pc := 20) 0 rfl rfl dX11_weak_20 ?_
        refine hf_getf (pc := 21) fl_X11_62 dX11_weak_21 (fun v21 => ?_)
        refine hf_ald_n (pc := 24) 0 rfl rfl dX11_weak_24 ?_
        refine hf_getf (pc := 25) fl_X11_10 dX11_weak_25 (fun v25 => ?_)
        refine hf_ild_n (pc := 28) 1 rfl rfl dX11_weak_28 ?_
        refine hf_ild_n (pc := 29) 2 rfl rfl dX11_weak_29 ?_
        refine hf_cV (pc := 30) (N := M_X10_fewestFalls) (ts := [2, 0, 0]) (vs := [v25, x1, x2]) (st := []) (fun r => [(0, r)]) (c_X10_fewestFalls v21 v25 x1 x2) cal_X10_fewestFalls ml_X11_228 ⟨hf_le rfl, hf_le rfl⟩ (hf_le rfl) ⟨rfl, rfl⟩ rfl dX11_weak_30 (fun _ => rfl) (fun v30 => ?_)
        exact hf_Jret (pc := 33) dX11_weak_33 (fun _ => rfl)
      · refine hf_iconst (pc := 18) dX11_weak_18 ?_
        exact hf_Jret (pc := 19) dX11_weak_19 (fun _ => rfl)
/-! HighFall.addRound(II)V -/
def M_X11_addRound : hf_D := (yX11_addRound, cX11_addRound, 6, none, 1, 24)
def B_X11_addRound_13 (rec_2 : Int → hf_M Int) (x0 x2 x3 : Int) (rec_13 : Int × Int → hf_M Int) (x4 x5 : Int) : hf_M Int :=
  hf_ck (hf_inI x2 ∧ hf_inI x3) (hf_bd (hf_ret (min x2 x3)) (fun v17 => hf_cb x5 v17 (v17 < x5) (hf_bd (hf_gf 11 10 x0) (fun v44 => hf_bd (hf_gf 11 0 x0) (fun v51 => hf_bd (hf_gf 8 0 v51) (fun v54 => hf_ck (hf_inI x4 ∧ hf_inI (v54 + 1)) (hf_bd (hf_ret (min x4 (v54 + 1))) (fun v59 => hf_bd (hf_as 20 v44 x3 v59) (fun _ => hf_bd (hf_ret (x3 + (-1))) (fun x3_63 => rec_2 x3_63)))))))) (hf_bd (hf_gf 11 10 x0) (fun v26 => hf_bd (hf_al 20 v26 (x3 - x5)) (fun v33 => hf_bd (hf_ret (x4 + v33)) (fun x4_35 => hf_bd (hf_ret (x5 + 1)) (fun x5_37 => rec_13 (x4_35, x5_37))))))))
def f_X11_addRound_13 (rec_2 : Int → hf_M Int) (x0 x2 x3 x4 x5 : Int) : hf_M Int := hf_fx (fun rec s => B_X11_addRound_13 rec_2 x0 x2 x3 rec s.1 s.2) hf_N (x4, x5)
def B_X11_addRound_2 (x0 x2 : Int) (rec_2 : Int → hf_M Int) (x3 : Int) : hf_M Int :=
  hf_cb x3 1 (x3 < 1) (hf_ret 0) (f_X11_addRound_13 rec_2 x0 x2 x3 0 0)
def f_X11_addRound_2 (x0 x2 x3 : Int) : hf_M Int := hf_fx (fun rec s => B_X11_addRound_2 x0 x2 rec s) hf_N x3
def f_X11_addRound (x0 x1 x2 : Int) : hf_M Int :=
  f_X11_addRound_2 x0 x2 x1
theorem cal_X11_addRound : hf_cv M_X11_addRound 11 2 := ⟨⟨ii_X11, kc_X11_addRound, by decide, by decide, by decide +kernel⟩, ki_X11_addRound, kv_X11_addRound, _, rfl, rfl⟩
set_option maxRecDepth 20000 in
theorem jb_X11_addRound_13 (x0 x2 x3 : Int) (rec_2 : Int → hf_M Int) (hrec_2 : ∀ s : Int, hf_J M_X11_addRound 2 [(0, 2, x0), (2, 0, x2), (3, 0, s)] [] (rec_2 s)) (rec_13 : Int × Int → hf_M Int) (hrec_13 : ∀ s : Int × Int, hf_J M_X11_addRound 13 [(0, 2, x0), (2, 0, x2), (3, 0, x3), (4, 0, s.1), (5, 0, s.2)] [] (rec_13 s)) (x4 x5 : Int) : hf_J M_X11_addRound 13 [(0, 2, x0), (2, 0, x2), (3, 0, x3), (4, 0, x4), (5, 0, x5)] [] (B_X11_addRound_13 rec_2 x0 x2 x3 rec_13 x4 x5) := by
  refine hf_ild (pc := 13) 4 rfl dX11_addRound_13 ?_
  refine hf_ild_n (pc := 15) 1 rfl rfl dX11_addRound_15 ?_
  refine hf_ild_n (pc := 16) 2 rfl rfl dX11_addRound_16 ?_
  refine hf_mmin (pc := 17) ml_X11_320 ⟨hf_le rfl, hf_le rfl⟩ dX11_addRound_17 (fun v17 => ?_)
  refine hf_icmp_gt (pc := 20) 43 dX11_addRound_20 rfl ?_ ?_
  · refine hf_ald_n (pc := 43) 0 rfl rfl dX11_addRound_43 ?_
    refine hf_getf (pc := 44) fl_X11_66 dX11_addRound_44 (fun v44 => ?_)
    refine hf_ild_n (pc := 47) 2 rfl rfl dX11_addRound_47 ?_
    refine hf_ild (pc := 48) 3 rfl dX11_addRound_48 ?_
    refine hf_ald_n (pc := 50) 0 rfl rfl dX11_addRound_50 ?_
    refine hf_getf (pc := 51) fl_X11_10 dX11_addRound_51 (fun v51 => ?_)
    refine hf_getf (pc := 54) fl_X11_194 dX11_addRound_54 (fun v54 => ?_)
    refine hf_iconst (pc := 57) dX11_addRound_57 ?_
    refine hf_iadd (pc := 58) dX11_addRound_58 ?_
    refine hf_mmin (pc := 59) ml_X11_320 ⟨hf_le rfl, hf_le rfl⟩ dX11_addRound_59 (fun v59 => ?_)
    refine hf_iast (pc := 62) dX11_addRound_62 ?_
    refine hf_iincB (pc := 63) (fun y => [(3, 0, y), (0, 2, x0), (2, 0, x2), (4, 0, x4), (5, 0, x5)]) (q := 2) rfl (by decide) (fun _ => rfl) dX11_addRound_63 (fun x3_63 => ?_)
    refine hf_goto (pc := 66) 2 dX11_addRound_66 rfl ?_
    exact hf_sub [1, 2, 0] rfl (hrec_2 x3_63)
  · refine hf_ild (pc := 23) 3 rfl dX11_addRound_23 ?_
    refine hf_ald_n (pc := 25) 0 rfl rfl dX11_addRound_25 ?_
    refine hf_getf (pc := 26) fl_X11_66 dX11_addRound_26 (fun v26 => ?_)
    refine hf_ild_n (pc := 29) 2 rfl rfl dX11_addRound_29 ?_
    refine hf_ild (pc := 30) 4 rfl dX11_addRound_30 ?_
    refine hf_isub (pc := 32) dX11_addRound_32 ?_
    refine hf_iald (pc := 33) dX11_addRound_33 (fun v33 => ?_)
    refine hf_iadd (pc := 34) dX11_addRound_34 ?_
    refine hf_istB (pc := 35) (fun y => [(4, 0, y), (0, 2, x0), (2, 0, x2), (3, 0, x3), (5, 0, x5)]) (by decide) (fun _ => rfl) dX11_addRound_35 (fun x4_35 => ?_)
    refine hf_iincB (pc := 37) (fun y => [(5, 0, y), (4, 0, x4_35), (0, 2, x0), (2, 0, x2), (3, 0, x3)]) (q := 4) rfl (by decide) (fun _ => rfl) dX11_addRound_37 (fun x5_37 => ?_)
    refine hf_goto (pc := 40) 13 dX11_addRound_40 rfl ?_
    exact hf_sub [2, 3, 4, 1, 0] rfl (hrec_13 (x4_35, x5_37))
set_option maxRecDepth 20000 in
theorem j_X11_addRound_13 (x0 x2 x3 x4 x5 : Int) (rec_2 : Int → hf_M Int) (hrec_2 : ∀ s : Int, hf_J M_X11_addRound 2 [(0, 2, x0), (2, 0, x2), (3, 0, s)] [] (rec_2 s)) : hf_J M_X11_addRound 13 [(0, 2, x0), (2, 0, x2), (3, 0, x3), (4, 0, x4), (5, 0, x5)] [] (f_X11_addRound_13 rec_2 x0 x2 x3 x4 x5) :=
  hf_Jfx (L := fun s => [(0, 2, x0), (2, 0, x2), (3, 0, x3), (4, 0, s.1), (5, 0, s.2)]) (fun rec hrec s => jb_X11_addRound_13 x0 x2 x3 rec_2 hrec_2 rec hrec s.1 s.2) hf_N (x4, x5)
set_option maxRecDepth 20000 in
theorem jb_X11_addRound_2 (x0 x2 : Int) (rec_2 : Int → hf_M Int) (hrec_2 : ∀ s : Int, hf_J M_X11_addRound 2 [(0, 2, x0), (2, 0, x2), (3, 0, s)] [] (rec_2 s)) (x3 : Int) : hf_J M_X11_addRound 2 [(0, 2, x0), (2, 0, x2), (3, 0, x3)] [] (B_X11_addRound_2 x0 x2 rec_2 x3) := by
  refine hf_ild_n (pc := 2) 2 rfl rfl dX11_addRound_2 ?_
  refine hf_iconst (pc := 3) dX11_addRound_3 ?_
  refine hf_icmp_lt (pc := 4) 69 dX11_addRound_4 rfl ?_ ?_
  · exact hf_Jret (pc := 69) dX11_addRound_69 (fun _ => rfl)
  · refine hf_iconst (pc := 7) dX11_addRound_7 ?_
    refine hf_ist (pc := 8) (lv' := [(4, 0, 0), (0, 2, x0), (2, 0, x2), (3, 0, x3)]) (by decide) rfl dX11_addRound_8 ?_
    refine hf_iconst (pc := 10) dX11_addRound_10 ?_
    refine hf_ist (pc := 11) (lv' := [(5, 0, 0), (4, 0, 0), (0, 2, x0), (2, 0, x2), (3, 0, x3)]) (by decide) rfl dX11_addRound_11 ?_
    exact hf_sub [2, 3, 4, 1, 0] rfl (j_X11_addRound_13 x0 x2 x3 0 0 rec_2 hrec_2)
set_option maxRecDepth 20000 in
theorem j_X11_addRound_2 (x0 x2 x3 : Int) : hf_J M_X11_addRound 2 [(0, 2, x0), (2, 0, x2), (3, 0, x3)] [] (f_X11_addRound_2 x0 x2 x3) :=
  hf_Jfx (L := fun s => [(0, 2, x0), (2, 0, x2), (3, 0, s)]) (fun rec hrec s => jb_X11_addRound_2 x0 x2 rec hrec s) hf_N x3
set_option maxRecDepth 20000 in
theorem c_X11_addRound (x0 x1 x2 : Int) : hf_Met M_X11_addRound [2, 0, 0] [x0, x1, x2] (f_X11_addRound x0 x1 x2) := by
  refine hf_met rfl (by decide) (by decide) (by decide) ?_
  show hf_J M_X11_addRound 0 [(0, 2, x0), (1, 0, x1), (2, 0, x2)] [] _
  refine hf_ild_n (pc := 0) 1 rfl rfl dX11_addRound_0 ?_
  refine hf_ist_n (pc := 1) (lv' := [(3, 0, x1), (0, 2, x0), (1, 0, x1), (2, 0, x2)]) rfl (by decide) rfl dX11_addRound_1 ?_
  exact hf_sub [1, 3, 0] rfl (j_X11_addRound_2 x0 x2 x1)
/-! HighFall.rounds(II)I -/
def M_X11_rounds : hf_D := (yX11_rounds, cX11_rounds, 4, some .int, 2, 49)
def B_X11_rounds_33 (x0 x1 x2 : Int) (rec_33 : Int → hf_M Int) (x3 : Int) : hf_M Int :=
  hf_bd (hf_gf 11 0 x0) (fun v35 => hf_bd (hf_gf 8 0 v35) (fun v38 => hf_cb x3 v38 (v38 ≤ x3) (hf_ret x3) (hf_bd (hf_gf 11 10 x0) (fun v45 => hf_bd (hf_al 20 v45 x1) (fun v49 => hf_bd (hf_gf 11 0 x0) (fun v51 => hf_bd (hf_gf 8 0 v51) (fun v54 => hf_cb v49 v54 (v54 < v49) (hf_ret x3) (hf_bd (hf_ob 11 x0 (f_X11_addRound x0 x1 x2)) (fun _ => hf_bd (hf_ret (x3 + 1)) (fun x3_66 => rec_33 x3_66))))))))))
def f_X11_rounds_33 (x0 x1 x2 x3 : Int) : hf_M Int := hf_fx (fun rec s => B_X11_rounds_33 x0 x1 x2 rec s) hf_N x3
def f_X11_rounds (x0 x1 x2 : Int) : hf_M Int :=
  hf_cb x1 1 (x1 < 1) (hf_ret (-1)) (hf_cb x1 9 (9 < x1) (hf_ret (-1)) (hf_cb x2 1 (x2 < 1) (hf_ret (-1)) (hf_cb x2 4 (x2 ≤ 4) (hf_bd (hf_gf 11 10 x0) (fun v24 => hf_bd (f_J7_fill_53178 v24 1) (fun _ => f_X11_rounds_33 x0 x1 x2 0))) (hf_ret (-1)))))
theorem cal_X11_rounds : hf_cv M_X11_rounds 11 2 := ⟨⟨ii_X11, kc_X11_rounds, by decide, by decide, by decide +kernel⟩, ki_X11_rounds, kv_X11_rounds, _, rfl, rfl⟩
set_option maxRecDepth 20000 in
theorem jb_X11_rounds_33 (x0 x1 x2 : Int) (rec_33 : Int → hf_M Int) (hrec_33 : ∀ s : Int, hf_J M_X11_rounds 33 [(0, 2, x0), (1, 0, x1), (2, 0, x2), (3, 0, s)] [] (rec_33 s)) (x3 : Int) : hf_J M_X11_rounds 33 [(0, 2, x0), (1, 0, x1), (2, 0, x2), (3, 0, x3)] [] (B_X11_rounds_33 x0 x1 x2 rec_33 x3) := by
  refine hf_ild_n (pc := 33) 3 rfl rfl dX11_rounds_33 ?_
  refine hf_ald_n (pc := 34) 0 rfl rfl dX11_rounds_34 ?_
  refine hf_getf (pc := 35) fl_X11_10 dX11_rounds_35 (fun v35 => ?_)
  refine hf_getf (pc := 38) fl_X11_194 dX11_rounds_38 (fun v38 => ?_)
  refine hf_icmp_ge (pc := 41) 72 dX11_rounds_41 rfl ?_ ?_
  · refine hf_ild_n (pc := 72) 3 rfl rfl dX11_rounds_72 ?_
    exact hf_Jret (pc := 73) dX11_rounds_73 (fun _ => rfl)
  · refine hf_ald_n (pc := 44) 0 rfl rfl dX11_rounds_44 ?_
    refine hf_getf (pc := 45) fl_X11_66 dX11_rounds_45 (fun v45 => ?_)
    refine hf_ild_n (pc := 48) 1 rfl rfl dX11_rounds_48 ?_
    refine hf_iald (pc := 49) dX11_rounds_49 (fun v49 => ?_)
    refine hf_ald_n (pc := 50) 0 rfl rfl dX11_rounds_50 ?_
    refine hf_getf (pc := 51) fl_X11_10 dX11_rounds_51 (fun v51 => ?_)
    refine hf_getf (pc := 54) fl_X11_194 dX11_rounds_54 (fun v54 => ?_)
    refine hf_icmp_gt (pc := 57) 72 dX11_rounds_57 rfl ?_ ?_
    · refine hf_ild_n (pc := 72) 3 rfl rfl dX11_rounds_72 ?_
      exact hf_Jret (pc := 73) dX11_rounds_73 (fun _ => rfl)
    · refine hf_ald_n (pc := 60) 0 rfl rfl dX11_rounds_60 ?_
      refine hf_ild_n (pc := 61) 1 rfl rfl dX11_rounds_61 ?_
      refine hf_ild_n (pc := 62) 2 rfl rfl dX11_rounds_62 ?_
      refine hf_cV (pc := 63) (N := M_X11_addRound) (ts := [0, 0]) (vs := [x1, x2]) (st := []) (fun r => []) (c_X11_addRound x0 x1 x2) cal_X11_addRound ml_X11_238 ⟨hf_le rfl, hf_le rfl⟩ (hf_le rfl) ⟨rfl, rfl⟩ rfl dX11_rounds_63 (fun _ => rfl) (fun _ => ?_)
      refine hf_iincB (pc := 66) (fun y => [(3, 0, y), (0, 2, x0), (1, 0, x1), (2, 0, x2)]) (q := 3) rfl (by decide) (fun _ => rfl) dX11_rounds_66 (fun x3_66 => ?_)
      refine hf_goto (pc := 69) 33 dX11_rounds_69 rfl ?_
      exact hf_sub [1, 2, 3, 0] rfl (hrec_33 x3_66)
set_option maxRecDepth 20000 in
theorem j_X11_rounds_33 (x0 x1 x2 x3 : Int) : hf_J M_X11_rounds 33 [(0, 2, x0), (1, 0, x1), (2, 0, x2), (3, 0, x3)] [] (f_X11_rounds_33 x0 x1 x2 x3) :=
  hf_Jfx (L := fun s => [(0, 2, x0), (1, 0, x1), (2, 0, x2), (3, 0, s)]) (fun rec hrec s => jb_X11_rounds_33 x0 x1 x2 rec hrec s) hf_N x3
set_option maxRecDepth 20000 in
theorem c_X11_rounds (x0 x1 x2 : Int) : hf_Met M_X11_rounds [2, 0, 0] [x0, x1, x2] (f_X11_rounds x0 x1 x2) := by
  refine hf_met rfl (by decide) (by decide) (by decide) ?_
  show hf_J M_X11_rounds 0 [(0, 2, x0), (1, 0, x1), (2, 0, x2)] [] _
  refine hf_ild_n (pc := 0) 1 rfl rfl dX11_rounds_0 ?_
  refine hf_iconst (pc := 1) dX11_rounds_1 ?_
  refine hf_icmp_lt (pc := 2) 21 dX11_rounds_2 rfl ?_ ?_
  · refine hf_iconst (pc := 21) dX11_rounds_21 ?_
    exact hf_Jret (pc := 22) dX11_rounds_22 (fun _ => rfl)
  · refine hf_ild_n (pc := 5) 1 rfl rfl dX11_rounds_5 ?_
    refine hf_bipush (pc := 6) dX11_rounds_6 (by decide) ?_
    refine hf_icmp_gt (pc := 8) 21 dX11_rounds_8 rfl ?_ ?_
    · refine hf_iconst (pc := 21) dX11_rounds_21 ?_
      exact hf_Jret (pc := 22) dX11_rounds_22 (fun _ => rfl)
    · refine hf_ild_n (pc := 11) 2 rfl rfl dX11_rounds_11 ?_
      refine hf_iconst (pc := 12) dX11_rounds_12 ?_
      refine hf_icmp_lt (pc := 13) 21 dX11_rounds_13 rfl ?_ ?_
      · refine hf_iconst (pc := 21) dX11_rounds_21 ?_
        exact hf_Jret (pc := 22) dX11_rounds_22 (fun _ => rfl)
      · refine hf_ild_n (pc := 16) 2 rfl rfl dX11_rounds_16 ?_
        refine hf_iconst (pc := 17) dX11_rounds_17 ?_
        refine hf_icmp_le (pc := 18) 23 dX11_rounds_18 rfl ?_ ?_
        · refine hf_ald_n (pc := 23) 0 rfl rfl dX11_rounds_23 ?_
          refine hf_getf (pc := 24) fl_X11_66 dX11_rounds_24 (fun v24 => ?_)
          refine hf_iconst (pc := 27) dX11_rounds_27 ?_
          refine hf_cS (pc := 28) (N := M_J7_fill_53178) (ts := [2, 0]) (vs := [v24, 1]) (st := []) (fun r => []) (c_J7_fill_53178 v24 1) cal_J7_fill_53178 ml_X11_232 ⟨hf_le rfl, hf_le rfl⟩ (hf_le rfl) ⟨rfl, rfl⟩ rfl dX11_rounds_28 (fun _ => rfl) (fun _ => ?_)
          refine hf_iconst (pc := 31) dX11_rounds_31 ?_
          refine hf_ist_n (pc := 32) (lv' := [(3, 0, 0), (0, 2, x0), (1, 0, x1), (2, 0, x2)]) rfl (by decide) rfl dX11_rounds_32 ?_
          exact hf_sub [1, 2, 3, 0] rfl (j_X11_rounds_33 x0 x1 x2 0)
        · refine hf_iconst (pc := 21) dX11_rounds_21 ?_
          exact hf_Jret (pc := 22) dX11_rounds_22 (fun _ => rfl)
/-! HighFall.lies(II)I -/
def M_X11_lies : hf_D := (yX11_lies, cX11_lies, 3, some .int, 3, 86)
def f_X11_lies (x0 x1 x2 : Int) : hf_M Int :=
  hf_cb x1 1 (x1 < 1) (hf_ret (-1)) (hf_cb x1 7 (7 < x1) (hf_ret (-1)) (hf_bd (f_X11_isWithin x2 2) (fun v13 => hf_cz v13 (¬ v13 = 0) (hf_bd (hf_gf 11 11 x0) (fun v22 => hf_bd (hf_ob 2 v22 (f_X2_fewestFalls v22 x1 x2)) (fun v27 => hf_ret v27))) (hf_ret (-1)))))
theorem cal_X11_lies : hf_cv M_X11_lies 11 2 := ⟨⟨ii_X11, kc_X11_lies, by decide, by decide, by decide +kernel⟩, ki_X11_lies, kv_X11_lies, _, rfl, rfl⟩
set_option maxRecDepth 20000 in
theorem c_X11_lies (x0 x1 x2 : Int) : hf_Met M_X11_lies [2, 0, 0] [x0, x1, x2] (f_X11_lies x0 x1 x2) := by
  refine hf_met rfl (by decide) (by decide) (by decide) ?_
  show hf_J M_X11_lies 0 [(0, 2, x0), (1, 0, x1), (2, 0, x2)] [] _
  refine hf_ild_n (pc := 0) 1 rfl rfl dX11_lies_0 ?_
  refine hf_iconst (pc := 1) dX11_lies_1 ?_
  refine hf_icmp_lt (pc := 2) 19 dX11_lies_2 rfl ?_ ?_
  · refine hf_iconst (pc := 19) dX11_lies_19 ?_
    exact hf_Jret (pc := 20) dX11_lies_20 (fun _ => rfl)
  · refine hf_ild_n (pc := 5) 1 rfl rfl dX11_lies_5 ?_
    refine hf_bipush (pc := 6) dX11_lies_6 (by decide) ?_
    refine hf_icmp_gt (pc := 8) 19 dX11_lies_8 rfl ?_ ?_
    · refine hf_iconst (pc := 19) dX11_lies_19 ?_
      exact hf_Jret (pc := 20) dX11_lies_20 (fun _ => rfl)
    · refine hf_ild_n (pc := 11) 2 rfl rfl dX11_lies_11 ?_
      refine hf_iconst (pc := 12) dX11_lies_12 ?_
      refine hf_cS (pc := 13) (N := M_X11_isWithin) (ts := [0, 0]) (vs := [x2, 2]) (st := []) (fun r => [(0, r)]) (c_X11_isWithin x2 2) cal_X11_isWithin ml_X11_108 ⟨hf_le rfl, hf_le rfl⟩ (hf_le rfl) ⟨rfl, rfl⟩ rfl dX11_lies_13 (fun _ => rfl) (fun v13 => ?_)
      refine hf_if_ne (pc := 16) 21 dX11_lies_16 rfl ?_ ?_
      · refine hf_ald_n (pc := 21) 0 rfl rfl dX11_lies_21 ?_
        refine hf_getf (pc := 22) fl_X11_72 dX11_lies_22 (fun v22 => ?_)
        refine hf_ild_n (pc := 25) 1 rfl rfl dX11_lies_25 ?_
        refine hf_ild_n (pc := 26) 2 rfl rfl dX11_lies_26 ?_
        refine hf_cV (pc := 27) (N := M_X2_fewestFalls) (ts := [0, 0]) (vs := [x1, x2]) (st := []) (fun r => [(0, r)]) (c_X2_fewestFalls v22 x1 x2) cal_X2_fewestFalls ml_X11_241 ⟨hf_le rfl, hf_le rfl⟩ (hf_le rfl) ⟨rfl, rfl⟩ rfl dX11_lies_27 (fun _ => rfl) (fun v27 => ?_)
        exact hf_Jret (pc := 30) dX11_lies_30 (fun _ => rfl)
      · refine hf_iconst (pc := 19) dX11_lies_19 ?_
        exact hf_Jret (pc := 20) dX11_lies_20 (fun _ => rfl)
/-! HighFall.note(IIIZ)I -/
def M_X11_note : hf_D := (yX11_note, cX11_note, 5, some .int, 3, 66)
def f_X11_note (x0 x1 x2 x3 x4 : Int) : hf_M Int :=
  hf_bd (f_X11_isWithin x1 5) (fun v2 => hf_cz v2 (v2 = 0) (hf_ret (-1)) (hf_bd (hf_gf 11 0 x0) (fun v9 => hf_bd (hf_ob 8 v9 (f_X8_hasKind v9 x2)) (fun v13 => hf_cz v13 (v13 = 0) (hf_ret (-1)) (hf_bd (hf_gf 11 0 x0) (fun v20 => hf_bd (hf_ob 8 v20 (f_X8_hasStep v20 x3)) (fun v24 => hf_cz v24 (¬ v24 = 0) (hf_bd (hf_gf 11 12 x0) (fun v33 => hf_bd (hf_ob 3 v33 (f_X3_write v33 x1 x2 x3 x4)) (fun v41 => hf_ret v41))) (hf_ret (-1)))))))))
theorem cal_X11_note : hf_cv M_X11_note 11 4 := ⟨⟨ii_X11, kc_X11_note, by decide, by decide, by decide +kernel⟩, ki_X11_note, kv_X11_note, _, rfl, rfl⟩
set_option maxRecDepth 20000 in
theorem c_X11_note (x0 x1 x2 x3 x4 : Int) : hf_Met M_X11_note [2, 0, 0, 0, 0] [x0, x1, x2, x3, x4] (f_X11_note x0 x1 x2 x3 x4) := by
  refine hf_met rfl (by decide) (by decide) (by decide) ?_
  show hf_J M_X11_note 0 [(0, 2, x0), (1, 0, x1), (2, 0, x2), (3, 0, x3), (4, 0, x4)] [] _
  refine hf_ild_n (pc := 0) 1 rfl rfl dX11_note_0 ?_
  refine hf_iconst (pc := 1) dX11_note_1 ?_
  refine hf_cS (pc := 2) (N := M_X11_isWithin) (ts := [0, 0]) (vs := [x1, 5]) (st := []) (fun r => [(0, r)]) (c_X11_isWithin x1 5) cal_X11_isWithin ml_X11_108 ⟨hf_le rfl, hf_le rfl⟩ (hf_le rfl) ⟨rfl, rfl⟩ rfl dX11_note_2 (fun _ => rfl) (fun v2 => ?_)
  refine hf_if_eq (pc := 5) 30 dX11_note_5 rfl ?_ ?_
  · refine hf_iconst (pc := 30) dX11_note_30 ?_
    exact hf_Jret (pc := 31) dX11_note_31 (fun _ => rfl)
  · refine hf_ald_n (pc := 8) 0 rfl rfl dX11_note_8 ?_
    refine hf_getf (pc := 9) fl_X11_10 dX11_note_9 (fun v9 => ?_)
    refine hf_ild_n (pc := 12) 2 rfl rfl dX11_note_12 ?_
    refine hf_cV (pc := 13) (N := M_X8_hasKind) (ts := [0]) (vs := [x2]) (st := []) (fun r => [(0, r)]) (c_X8_hasKind v9 x2) cal_X8_hasKind ml_X11_104 ⟨hf_le rfl, hf_le rfl⟩ (hf_le rfl) ⟨rfl, rfl⟩ rfl dX11_note_13 (fun _ => rfl) (fun v13 => ?_)
    refine hf_if_eq (pc := 16) 30 dX11_note_16 rfl ?_ ?_
    · refine hf_iconst (pc := 30) dX11_note_30 ?_
      exact hf_Jret (pc := 31) dX11_note_31 (fun _ => rfl)
    · refine hf_ald_n (pc := 19) 0 rfl rfl dX11_note_19 ?_
      refine hf_getf (pc := 20) fl_X11_10 dX11_note_20 (fun v20 => ?_)
      refine hf_ild_n (pc := 23) 3 rfl rfl dX11_note_23 ?_
      refine hf_cV (pc := 24) (N := M_X8_hasStep) (ts := [0]) (vs := [x3]) (st := []) (fun r => [(0, r)]) (c_X8_hasStep v20 x3) cal_X8_hasStep ml_X11_243 ⟨hf_le rfl, hf_le rfl⟩ (hf_le rfl) ⟨rfl, rfl⟩ rfl dX11_note_24 (fun _ => rfl) (fun v24 => ?_)
      refine hf_if_ne (pc := 27) 32 dX11_note_27 rfl ?_ ?_
      · refine hf_ald_n (pc := 32) 0 rfl rfl dX11_note_32 ?_
        refine hf_getf (pc := 33) fl_X11_79 dX11_note_33 (fun v33 => ?_)
        refine hf_ild_n (pc := 36) 1 rfl rfl dX11_note_36 ?_
        refine hf_ild_n (pc := 37) 2 rfl rfl dX11_note_37 ?_
        refine hf_ild_n (pc := 38) 3 rfl rfl dX11_note_38 ?_
        refine hf_ild (pc := 39) 4 rfl dX11_note_39 ?_
        refine hf_cV (pc := 41) (N := M_X3_write) (ts := [0, 0, 0, 0]) (vs := [x1, x2, x3, x4]) (st := []) (fun r => [(0, r)]) (c_X3_write v33 x1 x2 x3 x4) cal_X3_write ml_X11_246 ⟨hf_le rfl, hf_le rfl⟩ (hf_le rfl) ⟨rfl, rfl⟩ rfl dX11_note_41 (fun _ => rfl) (fun v41 => ?_)
        exact hf_Jret (pc := 44) dX11_note_44 (fun _ => rfl)
      · refine hf_iconst (pc := 30) dX11_note_30 ?_
        exact hf_Jret (pc := 31) dX11_note_31 (fun _ => rfl)
/-! HighFall.strike(I)I -/
def M_X11_strike : hf_D := (yX11_strike, cX11_strike, 2, some .int, 3, 63)
def f_X11_strike (x0 x1 : Int) : hf_M Int :=
  hf_bd (hf_gf 11 12 x0) (fun v1 => hf_bd (hf_ob 3 v1 (f_X3_writeStrike v1 x1)) (fun v5 => hf_ret v5))
theorem cal_X11_strike : hf_cv M_X11_strike 11 1 := ⟨⟨ii_X11, kc_X11_strike, by decide, by decide, by decide +kernel⟩, ki_X11_strike, kv_X11_strike, _, rfl, rfl⟩
set_option maxRecDepth 20000 in
theorem c_X11_strike (x0 x1 : Int) : hf_Met M_X11_strike [2, 0] [x0, x1] (f_X11_strike x0 x1) := by
  refine hf_met rfl (by decide) (by decide) (by decide) ?_
  show hf_J M_X11_strike 0 [(0, 2, x0), (1, 0, x1)] [] _
  refine hf_ald_n (pc := 0) 0 rfl rfl dX11_strike_0 ?_
  refine hf_getf (pc := 1) fl_X11_79 dX11_strike_1 (fun v1 => ?_)
  refine hf_ild_n (pc := 4) 1 rfl rfl dX11_strike_4 ?_
  refine hf_cV (pc := 5) (N := M_X3_writeStrike) (ts := [0]) (vs := [x1]) (st := []) (fun r => [(0, r)]) (c_X3_writeStrike v1 x1) cal_X3_writeStrike ml_X11_250 ⟨hf_le rfl, hf_le rfl⟩ (hf_le rfl) ⟨rfl, rfl⟩ rfl dX11_strike_5 (fun _ => rfl) (fun v5 => ?_)
  exact hf_Jret (pc := 8) dX11_strike_8 (fun _ => rfl)
/-! HighFall.fitting(I)I -/
def M_X11_fitting : hf_D := (yX11_fitting, cX11_fitting, 4, some .int, 3, 70)
def f_X11_fitting_40 (rec_4 : Int × Int → hf_M Int) (x0 x1 x2 x3 : Int) : hf_M Int :=
  hf_bd (hf_ret (x3 + 1)) (fun x3_40 => rec_4 (x2, x3_40))
def B_X11_fitting_4 (x0 x1 : Int) (rec_4 : Int × Int → hf_M Int) (x2 x3 : Int) : hf_M Int :=
  hf_bd (hf_gf 11 0 x0) (fun v6 => hf_bd (hf_gf 8 0 v6) (fun v9 => hf_cb x3 v9 (v9 < x3) (hf_ck (hf_inI x1 ∧ hf_inI (-1)) (hf_bd (hf_ret (if ¬ x1 = (-1) then (-1) else x2)) (fun w56 => hf_ret w56))) (hf_bd (hf_gf 11 12 x0) (fun v16 => hf_bd (hf_gf 11 0 x0) (fun v20 => hf_bd (hf_ob 3 v16 (f_X3_wrongAt v16 v20 x3)) (fun v24 => hf_cz v24 (¬ v24 = 0) (f_X11_fitting_40 rec_4 x0 x1 x2 x3) (hf_cb x2 x1 (¬ x2 = x1) (hf_bd (hf_ret (x2 + 1)) (fun x2_37 => f_X11_fitting_40 rec_4 x0 x1 x2_37 x3)) (hf_ret x3))))))))
def f_X11_fitting_4 (x0 x1 x2 x3 : Int) : hf_M Int := hf_fx (fun rec s => B_X11_fitting_4 x0 x1 rec s.1 s.2) hf_N (x2, x3)
def f_X11_fitting (x0 x1 : Int) : hf_M Int :=
  f_X11_fitting_4 x0 x1 0 0
theorem cal_X11_fitting : hf_cv M_X11_fitting 11 1 := ⟨⟨ii_X11, kc_X11_fitting, by decide, by decide, by decide +kernel⟩, ki_X11_fitting, kv_X11_fitting, _, rfl, rfl⟩
set_option maxRecDepth 20000 in
theorem j_X11_fitting_40 (x0 x1 x2 x3 : Int) (rec_4 : Int × Int → hf_M Int) (hrec_4 : ∀ s : Int × Int, hf_J M_X11_fitting 4 [(0, 2, x0), (1, 0, x1), (2, 0, s.1), (3, 0, s.2)] [] (rec_4 s)) : hf_J M_X11_fitting 40 [(0, 2, x0), (1, 0, x1), (2, 0, x2), (3, 0, x3)] [] (f_X11_fitting_40 rec_4 x0 x1 x2 x3) := by
  refine hf_iincB (pc := 40) (fun y => [(3, 0, y), (0, 2, x0), (1, 0, x1), (2, 0, x2)]) (q := 3) rfl (by decide) (fun _ => rfl) dX11_fitting_40 (fun x3_40 => ?_)
  refine hf_goto (pc := 43) 4 dX11_fitting_43 rfl ?_
  exact hf_sub [1, 2, 3, 0] rfl (hrec_4 (x2, x3_40))
set_option maxRecDepth 20000 in
theorem jb_X11_fitting_4 (x0 x1 : Int) (rec_4 : Int × Int → hf_M Int) (hrec_4 : ∀ s : Int × Int, hf_J M_X11_fitting 4 [(0, 2, x0), (1, 0, x1), (2, 0, s.1), (3, 0, s.2)] [] (rec_4 s)) (x2 x3 : Int) : hf_J M_X11_fitting 4 [(0, 2, x0), (1, 0, x1), (2, 0, x2), (3, 0, x3)] [] (B_X11_fitting_4 x0 x1 rec_4 x2 x3) := by
  refine hf_ild_n (pc := 4) 3 rfl rfl dX11_fitting_4 ?_
  refine hf_ald_n (pc := 5) 0 rfl rfl dX11_fitting_5 ?_
  refine hf_getf (pc := 6) fl_X11_10 dX11_fitting_6 (fun v6 => ?_)
  refine hf_getf (pc := 9) fl_X11_194 dX11_fitting_9 (fun v9 => ?_)
  refine hf_icmp_gt (pc := 12) 46 dX11_fitting_12 rfl ?_ ?_
  · refine hf_ild_n (pc := 46) 1 rfl rfl dX11_fitting_46 ?_
    refine hf_iconst (pc := 47) dX11_fitting_47 ?_
    refine hf_Jdib (pc := 48) (pcM := 56) (t := 0) (stM := []) (fun w56 => ?_) (fun a1 a2 => ?_)
    · exact hf_Jret (pc := 56) dX11_fitting_56 (fun _ => rfl)
    · refine hf_icmp_ne (pc := 48) 55 dX11_fitting_48 rfl ?_ ?_
      · refine hf_iconst (pc := 55) dX11_fitting_55 ?_
        exact a1
      · refine hf_ild_n (pc := 51) 2 rfl rfl dX11_fitting_51 ?_
        refine hf_goto (pc := 52) 56 dX11_fitting_52 rfl ?_
        exact a2
  · refine hf_ald_n (pc := 15) 0 rfl rfl dX11_fitting_15 ?_
    refine hf_getf (pc := 16) fl_X11_79 dX11_fitting_16 (fun v16 => ?_)
    refine hf_ald_n (pc := 19) 0 rfl rfl dX11_fitting_19 ?_
    refine hf_getf (pc := 20) fl_X11_10 dX11_fitting_20 (fun v20 => ?_)
    refine hf_ild_n (pc := 23) 3 rfl rfl dX11_fitting_23 ?_
    refine hf_cV (pc := 24) (N := M_X3_wrongAt) (ts := [2, 0]) (vs := [v20, x3]) (st := []) (fun r => [(0, r)]) (c_X3_wrongAt v16 v20 x3) cal_X3_wrongAt ml_X11_254 ⟨hf_le rfl, hf_le rfl⟩ (hf_le rfl) ⟨rfl, rfl⟩ rfl dX11_fitting_24 (fun _ => rfl) (fun v24 => ?_)
    refine hf_if_ne (pc := 27) 40 dX11_fitting_27 rfl ?_ ?_
    · exact hf_sub [0, 1, 2, 3] rfl (j_X11_fitting_40 x0 x1 x2 x3 rec_4 hrec_4)
    · refine hf_ild_n (pc := 30) 2 rfl rfl dX11_fitting_30 ?_
      refine hf_ild_n (pc := 31) 1 rfl rfl dX11_fitting_31 ?_
      refine hf_icmp_ne (pc := 32) 37 dX11_fitting_32 rfl ?_ ?_
      · refine hf_iincB (pc := 37) (fun y => [(2, 0, y), (0, 2, x0), (1, 0, x1), (3, 0, x3)]) (q := 2) rfl (by decide) (fun _ => rfl) dX11_fitting_37 (fun x2_37 => ?_)
        exact hf_sub [1, 2, 0, 3] rfl (j_X11_fitting_40 x0 x1 x2_37 x3 rec_4 hrec_4)
      · refine hf_ild_n (pc := 35) 3 rfl rfl dX11_fitting_35 ?_
        exact hf_Jret (pc := 36) dX11_fitting_36 (fun _ => rfl)
set_option maxRecDepth 20000 in
theorem j_X11_fitting_4 (x0 x1 x2 x3 : Int) : hf_J M_X11_fitting 4 [(0, 2, x0), (1, 0, x1), (2, 0, x2), (3, 0, x3)] [] (f_X11_fitting_4 x0 x1 x2 x3) :=
  hf_Jfx (L := fun s => [(0, 2, x0), (1, 0, x1), (2, 0, s.1), (3, 0, s.2)]) (fun rec hrec s => jb_X11_fitting_4 x0 x1 rec hrec s.1 s.2) hf_N (x2, x3)
set_option maxRecDepth 20000 in
theorem c_X11_fitting (x0 x1 : Int) : hf_Met M_X11_fitting [2, 0] [x0, x1] (f_X11_fitting x0 x1) := by
  refine hf_met rfl (by decide) (by decide) (by decide) ?_
  show hf_J M_X11_fitting 0 [(0, 2, x0), (1, 0, x1)] [] _
  refine hf_iconst (pc := 0) dX11_fitting_0 ?_
  refine hf_ist_n (pc := 1) (lv' := [(2, 0, 0), (0, 2, x0), (1, 0, x1)]) rfl (by decide) rfl dX11_fitting_1 ?_
  refine hf_iconst (pc := 2) dX11_fitting_2 ?_
  refine hf_ist_n (pc := 3) (lv' := [(3, 0, 0), (2, 0, 0), (0, 2, x0), (1, 0, x1)]) rfl (by decide) rfl dX11_fitting_3 ?_
  exact hf_sub [2, 3, 1, 0] rfl (j_X11_fitting_4 x0 x1 0 0)
/-! HighFall.doubt(I)I -/
def M_X11_doubt : hf_D := (yX11_doubt, cX11_doubt, 2, some .int, 3, 70)
def f_X11_doubt (x0 x1 : Int) : hf_M Int :=
  hf_bd (hf_gf 11 0 x0) (fun v1 => hf_bd (hf_ob 8 v1 (f_X8_hasStrength v1 x1)) (fun v5 => hf_cz v5 (v5 = 0) (hf_ret (-1)) (hf_bd (hf_gf 11 12 x0) (fun v12 => hf_bd (hf_gf 11 0 x0) (fun v16 => hf_bd (hf_ob 3 v12 (f_X3_wrongAt v12 v16 x1)) (fun v20 => hf_ret v20))))))
theorem cal_X11_doubt : hf_cv M_X11_doubt 11 1 := ⟨⟨ii_X11, kc_X11_doubt, by decide, by decide, by decide +kernel⟩, ki_X11_doubt, kv_X11_doubt, _, rfl, rfl⟩
set_option maxRecDepth 20000 in
theorem c_X11_doubt (x0 x1 : Int) : hf_Met M_X11_doubt [2, 0] [x0, x1] (f_X11_doubt x0 x1) := by
  refine hf_met rfl (by decide) (by decide) (by decide) ?_
  show hf_J M_X11_doubt 0 [(0, 2, x0), (1, 0, x1)] [] _
  refine hf_ald_n (pc := 0) 0 rfl rfl dX11_doubt_0 ?_
  refine hf_getf (pc := 1) fl_X11_10 dX11_doubt_1 (fun v1 => ?_)
  refine hf_ild_n (pc := 4) 1 rfl rfl dX11_doubt_4 ?_
  refine hf_cV (pc := 5) (N := M_X8_hasStrength) (ts := [0]) (vs := [x1]) (st := []) (fun r => [(0, r)]) (c_X8_hasStrength v1 x1) cal_X8_hasStrength ml_X11_120 ⟨hf_le rfl, hf_le rfl⟩ (hf_le rfl) ⟨rfl, rfl⟩ rfl dX11_doubt_5 (fun _ => rfl) (fun v5 => ?_)
  refine hf_if_eq (pc := 8) 26 dX11_doubt_8 rfl ?_ ?_
  · refine hf_iconst (pc := 26) dX11_doubt_26 ?_
    exact hf_Jret (pc := 27) dX11_doubt_27 (fun _ => rfl)
  · refine hf_ald_n (pc := 11) 0 rfl rfl dX11_doubt_11 ?_
    refine hf_getf (pc := 12) fl_X11_79 dX11_doubt_12 (fun v12 => ?_)
    refine hf_ald_n (pc := 15) 0 rfl rfl dX11_doubt_15 ?_
    refine hf_getf (pc := 16) fl_X11_10 dX11_doubt_16 (fun v16 => ?_)
    refine hf_ild_n (pc := 19) 1 rfl rfl dX11_doubt_19 ?_
    refine hf_cV (pc := 20) (N := M_X3_wrongAt) (ts := [2, 0]) (vs := [v16, x1]) (st := []) (fun r => [(0, r)]) (c_X3_wrongAt v12 v16 x1) cal_X3_wrongAt ml_X11_254 ⟨hf_le rfl, hf_le rfl⟩ (hf_le rfl) ⟨rfl, rfl⟩ rfl dX11_doubt_20 (fun _ => rfl) (fun v20 => ?_)
    refine hf_goto (pc := 23) 27 dX11_doubt_23 rfl ?_
    exact hf_Jret (pc := 27) dX11_doubt_27 (fun _ => rfl)
/-! HighFall.least(I)I -/
def M_X11_least : hf_D := (yX11_least, cX11_least, 3, some .int, 4, 95)
def f_X11_least (x0 x1 : Int) : hf_M Int :=
  hf_bd (f_X11_isWithin x1 1) (fun v2 => hf_cz v2 (¬ v2 = 0) (hf_bd (hf_gf 11 12 x0) (fun v11 => hf_bd (hf_gf 11 0 x0) (fun v15 => hf_bd (hf_ob 3 v11 (f_X3_leastDoubted v11 v15)) (fun v18 => hf_cz x1 (¬ x1 = 0) (hf_ret v18) (hf_bd (hf_gf 11 12 x0) (fun v27 => hf_bd (hf_gf 11 0 x0) (fun v31 => hf_bd (hf_ob 3 v27 (f_X3_wrongAt v27 v31 v18)) (fun v35 => hf_ret v35)))))))) (hf_ret (-1)))
theorem cal_X11_least : hf_cv M_X11_least 11 1 := ⟨⟨ii_X11, kc_X11_least, by decide, by decide, by decide +kernel⟩, ki_X11_least, kv_X11_least, _, rfl, rfl⟩
set_option maxRecDepth 20000 in
theorem c_X11_least (x0 x1 : Int) : hf_Met M_X11_least [2, 0] [x0, x1] (f_X11_least x0 x1) := by
  refine hf_met rfl (by decide) (by decide) (by decide) ?_
  show hf_J M_X11_least 0 [(0, 2, x0), (1, 0, x1)] [] _
  refine hf_ild_n (pc := 0) 1 rfl rfl dX11_least_0 ?_
  refine hf_iconst (pc := 1) dX11_least_1 ?_
  refine hf_cS (pc := 2) (N := M_X11_isWithin) (ts := [0, 0]) (vs := [x1, 1]) (st := []) (fun r => [(0, r)]) (c_X11_isWithin x1 1) cal_X11_isWithin ml_X11_108 ⟨hf_le rfl, hf_le rfl⟩ (hf_le rfl) ⟨rfl, rfl⟩ rfl dX11_least_2 (fun _ => rfl) (fun v2 => ?_)
  refine hf_if_ne (pc := 5) 10 dX11_least_5 rfl ?_ ?_
  · refine hf_ald_n (pc := 10) 0 rfl rfl dX11_least_10 ?_
    refine hf_getf (pc := 11) fl_X11_79 dX11_least_11 (fun v11 => ?_)
    refine hf_ald_n (pc := 14) 0 rfl rfl dX11_least_14 ?_
    refine hf_getf (pc := 15) fl_X11_10 dX11_least_15 (fun v15 => ?_)
    refine hf_cV (pc := 18) (N := M_X3_leastDoubted) (ts := [2]) (vs := [v15]) (st := []) (fun r => [(0, r)]) (c_X3_leastDoubted v11 v15) cal_X3_leastDoubted ml_X11_258 ⟨hf_le rfl, hf_le rfl⟩ (hf_le rfl) ⟨rfl, rfl⟩ rfl dX11_least_18 (fun _ => rfl) (fun v18 => ?_)
    refine hf_ist_n (pc := 21) (lv' := [(2, 0, v18), (0, 2, x0), (1, 0, x1)]) rfl (by decide) rfl dX11_least_21 ?_
    refine hf_ild_n (pc := 22) 2 rfl rfl dX11_least_22 ?_
    refine hf_if_ne (pc := 23) 41 dX11_least_23 rfl ?_ ?_
    · refine hf_ild_n (pc := 41) 0 rfl rfl dX11_least_41 ?_
      exact hf_Jret (pc := 42) dX11_least_42 (fun _ => rfl)
    · refine hf_ald_n (pc := 26) 1 rfl rfl dX11_least_26 ?_
      refine hf_getf (pc := 27) fl_X11_79 dX11_least_27 (fun v27 => ?_)
      refine hf_ald_n (pc := 30) 1 rfl rfl dX11_least_30 ?_
      refine hf_getf (pc := 31) fl_X11_10 dX11_least_31 (fun v31 => ?_)
      refine hf_ild_n (pc := 34) 0 rfl rfl dX11_least_34 ?_
      refine hf_cV (pc := 35) (N := M_X3_wrongAt) (ts := [2, 0]) (vs := [v31, v18]) (st := []) (fun r => [(0, r)]) (c_X3_wrongAt v27 v31 v18) cal_X3_wrongAt ml_X11_254 ⟨hf_le rfl, hf_le rfl⟩ (hf_le rfl) ⟨rfl, rfl⟩ rfl dX11_least_35 (fun _ => rfl) (fun v35 => ?_)
      refine hf_goto (pc := 38) 42 dX11_least_38 rfl ?_
      exact hf_Jret (pc := 42) dX11_least_42 (fun _ => rfl)
  · refine hf_iconst (pc := 8) dX11_least_8 ?_
    exact hf_Jret (pc := 9) dX11_least_9 (fun _ => rfl)
/-! HighFall.doubted(I)I -/
def M_X11_doubted : hf_D := (yX11_doubted, cX11_doubted, 2, some .int, 4, 95)
def f_X11_doubted (x0 x1 : Int) : hf_M Int :=
  hf_bd (f_X11_isWithin x1 5) (fun v2 => hf_cz v2 (¬ v2 = 0) (hf_bd (hf_gf 11 12 x0) (fun v11 => hf_bd (hf_gf 11 0 x0) (fun v16 => hf_bd (hf_gf 11 12 x0) (fun v20 => hf_bd (hf_gf 11 0 x0) (fun v24 => hf_bd (hf_ob 3 v20 (f_X3_leastDoubted v20 v24)) (fun v27 => hf_bd (hf_ob 3 v11 (f_X3_wrongBy v11 x1 v16 v27)) (fun v30 => hf_ret v30))))))) (hf_ret (-1)))
theorem cal_X11_doubted : hf_cv M_X11_doubted 11 1 := ⟨⟨ii_X11, kc_X11_doubted, by decide, by decide, by decide +kernel⟩, ki_X11_doubted, kv_X11_doubted, _, rfl, rfl⟩
set_option maxRecDepth 20000 in
theorem c_X11_doubted (x0 x1 : Int) : hf_Met M_X11_doubted [2, 0] [x0, x1] (f_X11_doubted x0 x1) := by
  refine hf_met rfl (by decide) (by decide) (by decide) ?_
  show hf_J M_X11_doubted 0 [(0, 2, x0), (1, 0, x1)] [] _
  refine hf_ild_n (pc := 0) 1 rfl rfl dX11_doubted_0 ?_
  refine hf_iconst (pc := 1) dX11_doubted_1 ?_
  refine hf_cS (pc := 2) (N := M_X11_isWithin) (ts := [0, 0]) (vs := [x1, 5]) (st := []) (fun r => [(0, r)]) (c_X11_isWithin x1 5) cal_X11_isWithin ml_X11_108 ⟨hf_le rfl, hf_le rfl⟩ (hf_le rfl) ⟨rfl, rfl⟩ rfl dX11_doubted_2 (fun _ => rfl) (fun v2 => ?_)
  refine hf_if_ne (pc := 5) 10 dX11_doubted_5 rfl ?_ ?_
  · refine hf_ald_n (pc := 10) 0 rfl rfl dX11_doubted_10 ?_
    refine hf_getf (pc := 11) fl_X11_79 dX11_doubted_11 (fun v11 => ?_)
    refine hf_ild_n (pc := 14) 1 rfl rfl dX11_doubted_14 ?_
    refine hf_ald_n (pc := 15) 0 rfl rfl dX11_doubted_15 ?_
    refine hf_getf (pc := 16) fl_X11_10 dX11_doubted_16 (fun v16 => ?_)
    refine hf_ald_n (pc := 19) 0 rfl rfl dX11_doubted_19 ?_
    refine hf_getf (pc := 20) fl_X11_79 dX11_doubted_20 (fun v20 => ?_)
    refine hf_ald_n (pc := 23) 0 rfl rfl dX11_doubted_23 ?_
    refine hf_getf (pc := 24) fl_X11_10 dX11_doubted_24 (fun v24 => ?_)
    refine hf_cV (pc := 27) (N := M_X3_leastDoubted) (ts := [2]) (vs := [v24]) (st := [(2, v16), (0, x1), (2, v11)]) (fun r => [(0, r), (2, v16), (0, x1), (2, v11)]) (c_X3_leastDoubted v20 v24) cal_X3_leastDoubted ml_X11_258 ⟨hf_le rfl, hf_le rfl⟩ (hf_le rfl) ⟨rfl, rfl⟩ rfl dX11_doubted_27 (fun _ => rfl) (fun v27 => ?_)
    refine hf_cV (pc := 30) (N := M_X3_wrongBy) (ts := [0, 2, 0]) (vs := [x1, v16, v27]) (st := []) (fun r => [(0, r)]) (c_X3_wrongBy v11 x1 v16 v27) cal_X3_wrongBy ml_X11_262 ⟨hf_le rfl, hf_le rfl⟩ (hf_le rfl) ⟨rfl, rfl⟩ rfl dX11_doubted_30 (fun _ => rfl) (fun v30 => ?_)
    exact hf_Jret (pc := 33) dX11_doubted_33 (fun _ => rfl)
  · refine hf_iconst (pc := 8) dX11_doubted_8 ?_
    exact hf_Jret (pc := 9) dX11_doubted_9 (fun _ => rfl)
/-! HighFall.parts(I)I -/
def M_X11_parts : hf_D := (yX11_parts, cX11_parts, 2, some .int, 4, 97)
def f_X11_parts (x0 x1 : Int) : hf_M Int :=
  hf_bd (hf_gf 11 0 x0) (fun v1 => hf_bd (hf_ob 8 v1 (f_X8_hasKind v1 x1)) (fun v5 => hf_cz v5 (v5 = 0) (hf_ret (-1)) (hf_bd (hf_gf 11 12 x0) (fun v12 => hf_bd (hf_gf 11 0 x0) (fun v16 => hf_bd (hf_ob 3 v12 (f_X3_partingStep v12 v16 x1)) (fun v20 => hf_ret v20))))))
theorem cal_X11_parts : hf_cv M_X11_parts 11 1 := ⟨⟨ii_X11, kc_X11_parts, by decide, by decide, by decide +kernel⟩, ki_X11_parts, kv_X11_parts, _, rfl, rfl⟩
set_option maxRecDepth 20000 in
theorem c_X11_parts (x0 x1 : Int) : hf_Met M_X11_parts [2, 0] [x0, x1] (f_X11_parts x0 x1) := by
  refine hf_met rfl (by decide) (by decide) (by decide) ?_
  show hf_J M_X11_parts 0 [(0, 2, x0), (1, 0, x1)] [] _
  refine hf_ald_n (pc := 0) 0 rfl rfl dX11_parts_0 ?_
  refine hf_getf (pc := 1) fl_X11_10 dX11_parts_1 (fun v1 => ?_)
  refine hf_ild_n (pc := 4) 1 rfl rfl dX11_parts_4 ?_
  refine hf_cV (pc := 5) (N := M_X8_hasKind) (ts := [0]) (vs := [x1]) (st := []) (fun r => [(0, r)]) (c_X8_hasKind v1 x1) cal_X8_hasKind ml_X11_104 ⟨hf_le rfl, hf_le rfl⟩ (hf_le rfl) ⟨rfl, rfl⟩ rfl dX11_parts_5 (fun _ => rfl) (fun v5 => ?_)
  refine hf_if_eq (pc := 8) 26 dX11_parts_8 rfl ?_ ?_
  · refine hf_iconst (pc := 26) dX11_parts_26 ?_
    exact hf_Jret (pc := 27) dX11_parts_27 (fun _ => rfl)
  · refine hf_ald_n (pc := 11) 0 rfl rfl dX11_parts_11 ?_
    refine hf_getf (pc := 12) fl_X11_79 dX11_parts_12 (fun v12 => ?_)
    refine hf_ald_n (pc := 15) 0 rfl rfl dX11_parts_15 ?_
    refine hf_getf (pc := 16) fl_X11_10 dX11_parts_16 (fun v16 => ?_)
    refine hf_ild_n (pc := 19) 1 rfl rfl dX11_parts_19 ?_
    refine hf_cV (pc := 20) (N := M_X3_partingStep) (ts := [2, 0]) (vs := [v16, x1]) (st := []) (fun r => [(0, r)]) (c_X3_partingStep v12 v16 x1) cal_X3_partingStep ml_X11_266 ⟨hf_le rfl, hf_le rfl⟩ (hf_le rfl) ⟨rfl, rfl⟩ rfl dX11_parts_20 (fun _ => rfl) (fun v20 => ?_)
    refine hf_goto (pc := 23) 27 dX11_parts_23 rfl ?_
    exact hf_Jret (pc := 27) dX11_parts_27 (fun _ => rfl)
/-! HighFall.begin(I)Z -/
def M_X11_begin : hf_D := (yX11_begin, cX11_begin, 5, some .boolean, 1, 23)
def f_X11_begin (x0 x1 : Int) : hf_M Int :=
  hf_bd (hf_gf 11 0 x0) (fun v1 => hf_bd (hf_ob 8 v1 (f_X8_allWeights v1)) (fun v4 => hf_cz x1 (x1 < 0) (hf_ret 0) (hf_cz v4 (0 < v4) (hf_ck (hf_inI x1) (hf_bd (hf_ret (hf_andl ((x1 * 1103515245) + 12345) 2147483647)) (fun x3_32 => hf_bd (hf_gf 11 13 x0) (fun v34 => hf_bd (hf_gf 11 0 x0) (fun v38 => hf_bd (hf_gf 11 0 x0) (fun v42 => hf_bd (hf_dvl x3_32 65536) (fun v49 => hf_ck (hf_inI v4) (hf_bd (hf_rml v49 v4) (fun v52 => hf_bd (hf_ob 8 v42 (f_X8_strengthBehind v42 v52)) (fun v54 => hf_bd (hf_ob 1 v34 (f_X1_start v34 v38 v54)) (fun _ => hf_bd (hf_pf 11 14 x0 1) (fun _ => hf_ret 1)))))))))))) (hf_ret 0))))
theorem cal_X11_begin : hf_cv M_X11_begin 11 1 := ⟨⟨ii_X11, kc_X11_begin, by decide, by decide, by decide +kernel⟩, ki_X11_begin, kv_X11_begin, _, rfl, rfl⟩
set_option maxRecDepth 20000 in
theorem c_X11_begin (x0 x1 : Int) : hf_Met M_X11_begin [2, 0] [x0, x1] (f_X11_begin x0 x1) := by
  refine hf_met rfl (by decide) (by decide) (by decide) ?_
  show hf_J M_X11_begin 0 [(0, 2, x0), (1, 0, x1)] [] _
  refine hf_ald_n (pc := 0) 0 rfl rfl dX11_begin_0 ?_
  refine hf_getf (pc := 1) fl_X11_10 dX11_begin_1 (fun v1 => ?_)
  refine hf_cV (pc := 4) (N := M_X8_allWeights) (ts := []) (vs := []) (st := []) (fun r => [(0, r)]) (c_X8_allWeights v1) cal_X8_allWeights ml_X11_269 ⟨hf_le rfl, hf_le rfl⟩ (hf_le rfl) ⟨rfl, rfl⟩ rfl dX11_begin_4 (fun _ => rfl) (fun v4 => ?_)
  refine hf_ist_n (pc := 7) (lv' := [(2, 0, v4), (0, 2, x0), (1, 0, x1)]) rfl (by decide) rfl dX11_begin_7 ?_
  refine hf_ild_n (pc := 8) 2 rfl rfl dX11_begin_8 ?_
  refine hf_if_lt (pc := 9) 16 dX11_begin_9 rfl ?_ ?_
  · refine hf_iconst (pc := 16) dX11_begin_16 ?_
    exact hf_Jret (pc := 17) (r := 0) ⟨dX11_begin_17, Or.inl rfl⟩ (fun _ => rfl)
  · refine hf_ild_n (pc := 12) 0 rfl rfl dX11_begin_12 ?_
    refine hf_if_gt (pc := 13) 18 dX11_begin_13 rfl ?_ ?_
    · refine hf_ild_n (pc := 18) 2 rfl rfl dX11_begin_18 ?_
      refine hf_i2l (pc := 19) dX11_begin_19 ?_
      refine hf_ldc2 (pc := 20) (n := 1103515245) co_X11_272 (by decide) dX11_begin_20 ?_
      refine hf_lmul (pc := 23) dX11_begin_23 ?_
      refine hf_ldc2 (pc := 24) (n := 12345) co_X11_274 (by decide) dX11_begin_24 ?_
      refine hf_ladd (pc := 27) dX11_begin_27 ?_
      refine hf_ldc2 (pc := 28) (n := 2147483647) co_X11_276 (by decide) dX11_begin_28 ?_
      refine hf_land (pc := 31) dX11_begin_31 ?_
      refine hf_lst_nB (pc := 32) (fun y => [(3, 1, y), (2, 0, v4), (0, 2, x0), (1, 0, x1)]) rfl (by decide) (fun _ => rfl) dX11_begin_32 (fun x3_32 => ?_)
      refine hf_ald_n (pc := 33) 2 rfl rfl dX11_begin_33 ?_
      refine hf_getf (pc := 34) fl_X11_88 dX11_begin_34 (fun v34 => ?_)
      refine hf_ald_n (pc := 37) 2 rfl rfl dX11_begin_37 ?_
      refine hf_getf (pc := 38) fl_X11_10 dX11_begin_38 (fun v38 => ?_)
      refine hf_ald_n (pc := 41) 2 rfl rfl dX11_begin_41 ?_
      refine hf_getf (pc := 42) fl_X11_10 dX11_begin_42 (fun v42 => ?_)
      refine hf_lld_n (pc := 45) 0 rfl rfl dX11_begin_45 ?_
      refine hf_ldc2 (pc := 46) (n := 65536) co_X11_278 (by decide) dX11_begin_46 ?_
      refine hf_ldiv (pc := 49) dX11_begin_49 (fun v49 => ?_)
      refine hf_ild_n (pc := 50) 1 rfl rfl dX11_begin_50 ?_
      refine hf_i2l (pc := 51) dX11_begin_51 ?_
      refine hf_lrem (pc := 52) dX11_begin_52 (fun v52 => ?_)
      refine hf_l2i (pc := 53) dX11_begin_53 ?_
      refine hf_cV (pc := 54) (N := M_X8_strengthBehind) (ts := [0]) (vs := [v52]) (st := [(2, v38), (2, v34)]) (fun r => [(0, r), (2, v38), (2, v34)]) (c_X8_strengthBehind v42 v52) cal_X8_strengthBehind ml_X11_280 ⟨hf_le rfl, hf_le rfl⟩ (hf_le rfl) ⟨rfl, rfl⟩ rfl dX11_begin_54 (fun _ => rfl) (fun v54 => ?_)
      refine hf_cV (pc := 57) (N := M_X1_start) (ts := [2, 0]) (vs := [v38, v54]) (st := []) (fun r => []) (c_X1_start v34 v38 v54) cal_X1_start ml_X11_283 ⟨hf_le rfl, hf_le rfl⟩ (hf_le rfl) ⟨rfl, rfl⟩ rfl dX11_begin_57 (fun _ => rfl) (fun _ => ?_)
      refine hf_ald_n (pc := 60) 2 rfl rfl dX11_begin_60 ?_
      refine hf_iconst (pc := 61) dX11_begin_61 ?_
      refine hf_putf (pc := 62) fl_X11_92 (Or.inr rfl) dX11_begin_62 ?_
      refine hf_iconst (pc := 65) dX11_begin_65 ?_
      exact hf_Jret (pc := 66) (r := 1) ⟨dX11_begin_66, Or.inr rfl⟩ (fun _ => rfl)
    · refine hf_iconst (pc := 16) dX11_begin_16 ?_
      exact hf_Jret (pc := 17) (r := 0) ⟨dX11_begin_17, Or.inl rfl⟩ (fun _ => rfl)
/-! HighFall.drop(II)I -/
def M_X11_drop : hf_D := (yX11_drop, cX11_drop, 3, some .int, 2, 49)
def f_X11_drop (x0 x1 x2 : Int) : hf_M Int :=
  hf_bd (hf_gf 11 14 x0) (fun v1 => hf_cz v1 (v1 = 0) (hf_ret (-1)) (hf_bd (hf_gf 11 13 x0) (fun v8 => hf_bd (hf_gf 11 0 x0) (fun v12 => hf_bd (hf_ob 1 v8 (f_X1_canFall v8 v12 x1 x2)) (fun v17 => hf_cz v17 (¬ v17 = 0) (hf_bd (hf_gf 11 13 x0) (fun v26 => hf_bd (hf_gf 11 0 x0) (fun v30 => hf_bd (hf_ob 1 v26 (f_X1_letFall v26 v30 x1 x2)) (fun v35 => hf_ck (hf_inI v35) (hf_bd (hf_ret (if v35 = 0 then 1 else 2)) (fun w46 => hf_ret w46)))))) (hf_ret (-1)))))))
theorem cal_X11_drop : hf_cv M_X11_drop 11 2 := ⟨⟨ii_X11, kc_X11_drop, by decide, by decide, by decide +kernel⟩, ki_X11_drop, kv_X11_drop, _, rfl, rfl⟩
set_option maxRecDepth 20000 in
theorem c_X11_drop (x0 x1 x2 : Int) : hf_Met M_X11_drop [2, 0, 0] [x0, x1, x2] (f_X11_drop x0 x1 x2) := by
  refine hf_met rfl (by decide) (by decide) (by decide) ?_
  show hf_J M_X11_drop 0 [(0, 2, x0), (1, 0, x1), (2, 0, x2)] [] _
  refine hf_ald_n (pc := 0) 0 rfl rfl dX11_drop_0 ?_
  refine hf_getf (pc := 1) fl_X11_92 dX11_drop_1 (fun v1 => ?_)
  refine hf_if_eq (pc := 4) 23 dX11_drop_4 rfl ?_ ?_
  · refine hf_iconst (pc := 23) dX11_drop_23 ?_
    exact hf_Jret (pc := 24) dX11_drop_24 (fun _ => rfl)
  · refine hf_ald_n (pc := 7) 0 rfl rfl dX11_drop_7 ?_
    refine hf_getf (pc := 8) fl_X11_88 dX11_drop_8 (fun v8 => ?_)
    refine hf_ald_n (pc := 11) 0 rfl rfl dX11_drop_11 ?_
    refine hf_getf (pc := 12) fl_X11_10 dX11_drop_12 (fun v12 => ?_)
    refine hf_ild_n (pc := 15) 1 rfl rfl dX11_drop_15 ?_
    refine hf_ild_n (pc := 16) 2 rfl rfl dX11_drop_16 ?_
    refine hf_cV (pc := 17) (N := M_X1_canFall) (ts := [2, 0, 0]) (vs := [v12, x1, x2]) (st := []) (fun r => [(0, r)]) (c_X1_canFall v8 v12 x1 x2) cal_X1_canFall ml_X11_286 ⟨hf_le rfl, hf_le rfl⟩ (hf_le rfl) ⟨rfl, rfl⟩ rfl dX11_drop_17 (fun _ => rfl) (fun v17 => ?_)
    refine hf_if_ne (pc := 20) 25 dX11_drop_20 rfl ?_ ?_
    · refine hf_ald_n (pc := 25) 0 rfl rfl dX11_drop_25 ?_
      refine hf_getf (pc := 26) fl_X11_88 dX11_drop_26 (fun v26 => ?_)
      refine hf_ald_n (pc := 29) 0 rfl rfl dX11_drop_29 ?_
      refine hf_getf (pc := 30) fl_X11_10 dX11_drop_30 (fun v30 => ?_)
      refine hf_ild_n (pc := 33) 1 rfl rfl dX11_drop_33 ?_
      refine hf_ild_n (pc := 34) 2 rfl rfl dX11_drop_34 ?_
      refine hf_cV (pc := 35) (N := M_X1_letFall) (ts := [2, 0, 0]) (vs := [v30, x1, x2]) (st := []) (fun r => [(0, r)]) (c_X1_letFall v26 v30 x1 x2) cal_X1_letFall ml_X11_290 ⟨hf_le rfl, hf_le rfl⟩ (hf_le rfl) ⟨rfl, rfl⟩ rfl dX11_drop_35 (fun _ => rfl) (fun v35 => ?_)
      refine hf_Jdiz (pc := 38) (pcM := 46) (t := 0) (stM := []) (fun w46 => ?_) (fun a1 a2 => ?_)
      · exact hf_Jret (pc := 46) dX11_drop_46 (fun _ => rfl)
      · refine hf_if_eq (pc := 38) 45 dX11_drop_38 rfl ?_ ?_
        · refine hf_iconst (pc := 45) dX11_drop_45 ?_
          exact a1
        · refine hf_iconst (pc := 41) dX11_drop_41 ?_
          refine hf_goto (pc := 42) 46 dX11_drop_42 rfl ?_
          exact a2
    · refine hf_iconst (pc := 23) dX11_drop_23 ?_
      exact hf_Jret (pc := 24) dX11_drop_24 (fun _ => rfl)
/-! HighFall.back()I -/
def M_X11_back : hf_D := (yX11_back, cX11_back, 1, some .int, 1, 20)
def f_X11_back (x0 : Int) : hf_M Int :=
  hf_bd (hf_gf 11 14 x0) (fun v1 => hf_cz v1 (v1 = 0) (hf_ret (-1)) (hf_bd (hf_gf 11 13 x0) (fun v8 => hf_bd (hf_gf 1 11 v8) (fun v11 => hf_cz v11 (¬ v11 = 0) (hf_bd (hf_gf 11 13 x0) (fun v20 => hf_bd (hf_ob 1 v20 (f_X1_takeBack v20)) (fun _ => hf_bd (hf_gf 11 13 x0) (fun v27 => hf_bd (hf_gf 1 11 v27) (fun v30 => hf_ret v30))))) (hf_ret (-1))))))
theorem cal_X11_back : hf_cv M_X11_back 11 0 := ⟨⟨ii_X11, kc_X11_back, by decide, by decide, by decide +kernel⟩, ki_X11_back, kv_X11_back, _, rfl, rfl⟩
set_option maxRecDepth 20000 in
theorem c_X11_back (x0 : Int) : hf_Met M_X11_back [2] [x0] (f_X11_back x0) := by
  refine hf_met rfl (by decide) (by decide) (by decide) ?_
  show hf_J M_X11_back 0 [(0, 2, x0)] [] _
  refine hf_ald_n (pc := 0) 0 rfl rfl dX11_back_0 ?_
  refine hf_getf (pc := 1) fl_X11_92 dX11_back_1 (fun v1 => ?_)
  refine hf_if_eq (pc := 4) 17 dX11_back_4 rfl ?_ ?_
  · refine hf_iconst (pc := 17) dX11_back_17 ?_
    exact hf_Jret (pc := 18) dX11_back_18 (fun _ => rfl)
  · refine hf_ald_n (pc := 7) 0 rfl rfl dX11_back_7 ?_
    refine hf_getf (pc := 8) fl_X11_88 dX11_back_8 (fun v8 => ?_)
    refine hf_getf (pc := 11) fl_X11_177 dX11_back_11 (fun v11 => ?_)
    refine hf_if_ne (pc := 14) 19 dX11_back_14 rfl ?_ ?_
    · refine hf_ald_n (pc := 19) 0 rfl rfl dX11_back_19 ?_
      refine hf_getf (pc := 20) fl_X11_88 dX11_back_20 (fun v20 => ?_)
      refine hf_cV (pc := 23) (N := M_X1_takeBack) (ts := []) (vs := []) (st := []) (fun r => []) (c_X1_takeBack v20) cal_X1_takeBack ml_X11_293 ⟨hf_le rfl, hf_le rfl⟩ (hf_le rfl) ⟨rfl, rfl⟩ rfl dX11_back_23 (fun _ => rfl) (fun _ => ?_)
      refine hf_ald_n (pc := 26) 0 rfl rfl dX11_back_26 ?_
      refine hf_getf (pc := 27) fl_X11_88 dX11_back_27 (fun v27 => ?_)
      refine hf_getf (pc := 30) fl_X11_177 dX11_back_30 (fun v30 => ?_)
      exact hf_Jret (pc := 33) dX11_back_33 (fun _ => rfl)
    · refine hf_iconst (pc := 17) dX11_back_17 ?_
      exact hf_Jret (pc := 18) dX11_back_18 (fun _ => rfl)
/-! HighFall.now(I)I -/
def M_X11_now : hf_D := (yX11_now, cX11_now, 2, some .int, 1, 20)
def f_X11_now (x0 x1 : Int) : hf_M Int :=
  hf_bd (hf_gf 11 14 x0) (fun v1 => hf_cz v1 (¬ v1 = 0) (hf_ck (hf_inI x1) (hf_it (x1 = 0) (hf_bd (hf_gf 11 13 x0) (fun v49 => hf_bd (hf_gf 1 9 v49) (fun v52 => hf_ret v52))) (hf_it (x1 = 1) (hf_bd (hf_gf 11 13 x0) (fun v57 => hf_bd (hf_gf 1 10 v57) (fun v60 => hf_ret v60))) (hf_it (x1 = 2) (hf_bd (hf_gf 11 13 x0) (fun v65 => hf_bd (hf_gf 1 11 v65) (fun v68 => hf_ret v68))) (hf_it (x1 = 3) (hf_bd (hf_gf 11 13 x0) (fun v73 => hf_bd (hf_ob 1 v73 (f_X1_leftCode v73)) (fun v76 => hf_ret v76))) (hf_it (x1 = 4) (hf_bd (hf_gf 11 13 x0) (fun v81 => hf_bd (hf_gf 1 13 v81) (fun v84 => hf_ret v84))) (hf_it (x1 = 5) (hf_bd (hf_gf 11 13 x0) (fun v89 => hf_bd (hf_gf 1 8 v89) (fun v92 => hf_ret v92))) (hf_ret (-1))))))))) (hf_ret (-1)))
theorem cal_X11_now : hf_cv M_X11_now 11 1 := ⟨⟨ii_X11, kc_X11_now, by decide, by decide, by decide +kernel⟩, ki_X11_now, kv_X11_now, _, rfl, rfl⟩
set_option maxRecDepth 20000 in
theorem c_X11_now (x0 x1 : Int) : hf_Met M_X11_now [2, 0] [x0, x1] (f_X11_now x0 x1) := by
  refine hf_met rfl (by decide) (by decide) (by decide) ?_
  show hf_J M_X11_now 0 [(0, 2, x0), (1, 0, x1)] [] _
  refine hf_ald_n (pc := 0) 0 rfl rfl dX11_now_0 ?_
  refine hf_getf (pc := 1) fl_X11_92 dX11_now_1 (fun v1 => ?_)
  refine hf_if_ne (pc := 4) 9 dX11_now_4 rfl ?_ ?_
  · refine hf_ild_n (pc := 9) 1 rfl rfl dX11_now_9 ?_
    refine hf_Jck (fun hr => ?_)
    refine hf_Jit (fun hc0 => ?_) (fun hc0 => ?_)
    · refine hf_tsw (pc := 10) 48 38 hr dX11_now_10 (by omega) (by omega) (by rw [hc0]; rfl) rfl ?_
      refine hf_ald_n (pc := 48) 0 rfl rfl dX11_now_48 ?_
      refine hf_getf (pc := 49) fl_X11_88 dX11_now_49 (fun v49 => ?_)
      refine hf_getf (pc := 52) fl_X11_296 dX11_now_52 (fun v52 => ?_)
      exact hf_Jret (pc := 55) dX11_now_55 (fun _ => rfl)
    · refine hf_Jit (fun hc1 => ?_) (fun hc1 => ?_)
      · refine hf_tsw (pc := 10) 56 46 hr dX11_now_10 (by omega) (by omega) (by rw [hc1]; rfl) rfl ?_
        refine hf_ald_n (pc := 56) 0 rfl rfl dX11_now_56 ?_
        refine hf_getf (pc := 57) fl_X11_88 dX11_now_57 (fun v57 => ?_)
        refine hf_getf (pc := 60) fl_X11_299 dX11_now_60 (fun v60 => ?_)
        exact hf_Jret (pc := 63) dX11_now_63 (fun _ => rfl)
      · refine hf_Jit (fun hc2 => ?_) (fun hc2 => ?_)
        · refine hf_tsw (pc := 10) 64 54 hr dX11_now_10 (by omega) (by omega) (by rw [hc2]; rfl) rfl ?_
          refine hf_ald_n (pc := 64) 0 rfl rfl dX11_now_64 ?_
          refine hf_getf (pc := 65) fl_X11_88 dX11_now_65 (fun v65 => ?_)
          refine hf_getf (pc := 68) fl_X11_177 dX11_now_68 (fun v68 => ?_)
          exact hf_Jret (pc := 71) dX11_now_71 (fun _ => rfl)
        · refine hf_Jit (fun hc3 => ?_) (fun hc3 => ?_)
          · refine hf_tsw (pc := 10) 72 62 hr dX11_now_10 (by omega) (by omega) (by rw [hc3]; rfl) rfl ?_
            refine hf_ald_n (pc := 72) 0 rfl rfl dX11_now_72 ?_
            refine hf_getf (pc := 73) fl_X11_88 dX11_now_73 (fun v73 => ?_)
            refine hf_cV (pc := 76) (N := M_X1_leftCode) (ts := []) (vs := []) (st := []) (fun r => [(0, r)]) (c_X1_leftCode v73) cal_X1_leftCode ml_X11_302 ⟨hf_le rfl, hf_le rfl⟩ (hf_le rfl) ⟨rfl, rfl⟩ rfl dX11_now_76 (fun _ => rfl) (fun v76 => ?_)
            exact hf_Jret (pc := 79) dX11_now_79 (fun _ => rfl)
          · refine hf_Jit (fun hc4 => ?_) (fun hc4 => ?_)
            · refine hf_tsw (pc := 10) 80 70 hr dX11_now_10 (by omega) (by omega) (by rw [hc4]; rfl) rfl ?_
              refine hf_ald_n (pc := 80) 0 rfl rfl dX11_now_80 ?_
              refine hf_getf (pc := 81) fl_X11_88 dX11_now_81 (fun v81 => ?_)
              refine hf_getf (pc := 84) fl_X11_183 dX11_now_84 (fun v84 => ?_)
              exact hf_Jret (pc := 87) dX11_now_87 (fun _ => rfl)
            · refine hf_Jit (fun hc5 => ?_) (fun hc5 => ?_)
              · refine hf_tsw (pc := 10) 88 78 hr dX11_now_10 (by omega) (by omega) (by rw [hc5]; rfl) rfl ?_
                refine hf_ald_n (pc := 88) 0 rfl rfl dX11_now_88 ?_
                refine hf_getf (pc := 89) fl_X11_88 dX11_now_89 (fun v89 => ?_)
                refine hf_getf (pc := 92) fl_X11_305 dX11_now_92 (fun v92 => ?_)
                exact hf_Jret (pc := 95) dX11_now_95 (fun _ => rfl)
              · refine hf_tswd (pc := 10) 96 hr dX11_now_10 (by omega) rfl ?_
                refine hf_iconst (pc := 96) dX11_now_96 ?_
                exact hf_Jret (pc := 97) dX11_now_97 (fun _ => rfl)
  · refine hf_iconst (pc := 7) dX11_now_7 ?_
    exact hf_Jret (pc := 8) dX11_now_8 (fun _ => rfl)
/-! HighFall.count(I)I -/
def M_X11_count : hf_D := (yX11_count, cX11_count, 2, some .int, 1, 22)
def f_X11_count (x0 x1 : Int) : hf_M Int :=
  hf_ck (hf_inI x1) (hf_it (x1 = 0) (hf_bd (hf_gf 11 0 x0) (fun v45 => hf_bd (hf_gf 8 0 v45) (fun v48 => hf_ret v48))) (hf_it (x1 = 1) (hf_bd (hf_gf 11 4 x0) (fun v53 => hf_bd (hf_gf 4 0 v53) (fun v56 => hf_ret v56))) (hf_it (x1 = 2) (hf_bd (hf_gf 11 4 x0) (fun v61 => hf_bd (hf_gf 4 1 v61) (fun v64 => hf_ret v64))) (hf_it (x1 = 3) (hf_bd (hf_gf 11 12 x0) (fun v69 => hf_bd (hf_gf 3 0 v69) (fun v72 => hf_ret v72))) (hf_it (x1 = 4) (hf_bd (hf_gf 11 0 x0) (fun v77 => hf_bd (hf_gf 8 4 v77) (fun v80 => hf_ret v80))) (hf_it (x1 = 5) (hf_bd (hf_gf 11 0 x0) (fun v85 => hf_bd (hf_gf 8 5 v85) (fun v88 => hf_ret v88))) (hf_it (x1 = 6) (hf_bd (hf_gf 11 0 x0) (fun v93 => hf_bd (hf_ob 8 v93 (f_X8_allWeights v93)) (fun v96 => hf_ret v96))) (hf_ret (-1)))))))))
theorem cal_X11_count : hf_cv M_X11_count 11 1 := ⟨⟨ii_X11, kc_X11_count, by decide, by decide, by decide +kernel⟩, ki_X11_count, kv_X11_count, _, rfl, rfl⟩
set_option maxRecDepth 20000 in
theorem c_X11_count (x0 x1 : Int) : hf_Met M_X11_count [2, 0] [x0, x1] (f_X11_count x0 x1) := by
  refine hf_met rfl (by decide) (by decide) (by decide) ?_
  show hf_J M_X11_count 0 [(0, 2, x0), (1, 0, x1)] [] _
  refine hf_ild_n (pc := 0) 1 rfl rfl dX11_count_0 ?_
  refine hf_Jck (fun hr => ?_)
  refine hf_Jit (fun hc0 => ?_) (fun hc0 => ?_)
  · refine hf_tsw (pc := 1) 44 43 hr dX11_count_1 (by omega) (by omega) (by rw [hc0]; rfl) rfl ?_
    refine hf_ald_n (pc := 44) 0 rfl rfl dX11_count_44 ?_
    refine hf_getf (pc := 45) fl_X11_10 dX11_count_45 (fun v45 => ?_)
    refine hf_getf (pc := 48) fl_X11_194 dX11_count_48 (fun v48 => ?_)
    exact hf_Jret (pc := 51) dX11_count_51 (fun _ => rfl)
  · refine hf_Jit (fun hc1 => ?_) (fun hc1 => ?_)
    · refine hf_tsw (pc := 1) 52 51 hr dX11_count_1 (by omega) (by omega) (by rw [hc1]; rfl) rfl ?_
      refine hf_ald_n (pc := 52) 0 rfl rfl dX11_count_52 ?_
      refine hf_getf (pc := 53) fl_X11_34 dX11_count_53 (fun v53 => ?_)
      refine hf_getf (pc := 56) fl_X11_157 dX11_count_56 (fun v56 => ?_)
      exact hf_Jret (pc := 59) dX11_count_59 (fun _ => rfl)
    · refine hf_Jit (fun hc2 => ?_) (fun hc2 => ?_)
      · refine hf_tsw (pc := 1) 60 59 hr dX11_count_1 (by omega) (by omega) (by rw [hc2]; rfl) rfl ?_
        refine hf_ald_n (pc := 60) 0 rfl rfl dX11_count_60 ?_
        refine hf_getf (pc := 61) fl_X11_34 dX11_count_61 (fun v61 => ?_)
        refine hf_getf (pc := 64) fl_X11_308 dX11_count_64 (fun v64 => ?_)
        exact hf_Jret (pc := 67) dX11_count_67 (fun _ => rfl)
      · refine hf_Jit (fun hc3 => ?_) (fun hc3 => ?_)
        · refine hf_tsw (pc := 1) 68 67 hr dX11_count_1 (by omega) (by omega) (by rw [hc3]; rfl) rfl ?_
          refine hf_ald_n (pc := 68) 0 rfl rfl dX11_count_68 ?_
          refine hf_getf (pc := 69) fl_X11_79 dX11_count_69 (fun v69 => ?_)
          refine hf_getf (pc := 72) fl_X11_311 dX11_count_72 (fun v72 => ?_)
          exact hf_Jret (pc := 75) dX11_count_75 (fun _ => rfl)
        · refine hf_Jit (fun hc4 => ?_) (fun hc4 => ?_)
          · refine hf_tsw (pc := 1) 76 75 hr dX11_count_1 (by omega) (by omega) (by rw [hc4]; rfl) rfl ?_
            refine hf_ald_n (pc := 76) 0 rfl rfl dX11_count_76 ?_
            refine hf_getf (pc := 77) fl_X11_10 dX11_count_77 (fun v77 => ?_)
            refine hf_getf (pc := 80) fl_X11_314 dX11_count_80 (fun v80 => ?_)
            exact hf_Jret (pc := 83) dX11_count_83 (fun _ => rfl)
          · refine hf_Jit (fun hc5 => ?_) (fun hc5 => ?_)
            · refine hf_tsw (pc := 1) 84 83 hr dX11_count_1 (by omega) (by omega) (by rw [hc5]; rfl) rfl ?_
              refine hf_ald_n (pc := 84) 0 rfl rfl dX11_count_84 ?_
              refine hf_getf (pc := 85) fl_X11_10 dX11_count_85 (fun v85 => ?_)
              refine hf_getf (pc := 88) fl_X11_317 dX11_count_88 (fun v88 => ?_)
              exact hf_Jret (pc := 91) dX11_count_91 (fun _ => rfl)
            · refine hf_Jit (fun hc6 => ?_) (fun hc6 => ?_)
              · refine hf_tsw (pc := 1) 92 91 hr dX11_count_1 (by omega) (by omega) (by rw [hc6]; rfl) rfl ?_
                refine hf_ald_n (pc := 92) 0 rfl rfl dX11_count_92 ?_
                refine hf_getf (pc := 93) fl_X11_10 dX11_count_93 (fun v93 => ?_)
                refine hf_cV (pc := 96) (N := M_X8_allWeights) (ts := []) (vs := []) (st := []) (fun r => [(0, r)]) (c_X8_allWeights v93) cal_X8_allWeights ml_X11_269 ⟨hf_le rfl, hf_le rfl⟩ (hf_le rfl) ⟨rfl, rfl⟩ rfl dX11_count_96 (fun _ => rfl) (fun v96 => ?_)
                exact hf_Jret (pc := 99) dX11_count_99 (fun _ => rfl)
              · refine hf_tswd (pc := 1) 100 hr dX11_count_1 (by omega) rfl ?_
                refine hf_iconst (pc := 100) dX11_count_100 ?_
                exact hf_Jret (pc := 101) dX11_count_101 (fun _ => rfl)
