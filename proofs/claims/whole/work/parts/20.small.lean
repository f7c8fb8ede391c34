/-! java/util/Arrays.fill([II)V -/
def M_J7_fill_53178 : hf_D := (yJ7_fill_53178, cJ7_fill_53178, 4, none, 0, 0)
def B_J7_fill_53178_5 (x0 x1 x3 : Int) (rec_5 : Int → hf_M Int) (x2 : Int) : hf_M Int :=
  hf_cb x2 x3 (x3 ≤ x2) (hf_ret 0) (hf_bd (hf_as 20 x0 x2 x1) (fun _ => hf_bd (hf_ret (x2 + 1)) (fun x2_14 => rec_5 x2_14)))
def f_J7_fill_53178_5 (x0 x1 x2 x3 : Int) : hf_M Int := hf_fx (fun rec s => B_J7_fill_53178_5 x0 x1 x3 rec s) hf_N x2
def f_J7_fill_53178 (x0 x1 : Int) : hf_M Int :=
  hf_bd (hf_an 20 x0) (fun v3 => f_J7_fill_53178_5 x0 x1 0 v3)
theorem cal_J7_fill_53178 : hf_csx M_J7_fill_53178 2 := ⟨⟨ii_J7, kc_J7_fill_53178, by decide, by decide, by decide +kernel⟩, ks_J7_fill_53178⟩
set_option maxRecDepth 20000 in
theorem jb_J7_fill_53178_5 (x0 x1 x3 : Int) (rec_5 : Int → hf_M Int) (hrec_5 : ∀ s : Int, hf_J M_J7_fill_53178 5 [(0, 2, x0), (1, 0, x1), (2, 0, s), (3, 0, x3)] [] (rec_5 s)) (x2 : Int) : hf_J M_J7_fill_53178 5 [(0, 2, x0), (1, 0, x1), (2, 0, x2), (3, 0, x3)] [] (B_J7_fill_53178_5 x0 x1 x3 rec_5 x2) := by
  refine hf_ild_n (pc := 5) 2 rfl rfl dJ7_fill_53178_5 ?_
  refine hf_ild_n (pc := 6) 3 rfl rfl dJ7_fill_53178_6 ?_
  refine hf_icmp_ge (pc := 7) 20 dJ7_fill_53178_7 rfl ?_ ?_
  · exact hf_Jret (pc := 20) dJ7_fill_53178_20 (fun _ => rfl)
  · refine hf_ald_n (pc := 10) 0 rfl rfl dJ7_fill_53178_10 ?_
    refine hf_ild_n (pc := 11) 2 rfl rfl dJ7_fill_53178_11 ?_
    refine hf_ild_n (pc := 12) 1 rfl rfl dJ7_fill_53178_12 ?_
    refine hf_iast (pc := 13) dJ7_fill_53178_13 ?_
    refine hf_iincB (pc := 14) (fun y => [(2, 0, y), (0, 2, x0), (1, 0, x1), (3, 0, x3)]) (q := 2) rfl (by decide) (fun _ => rfl) dJ7_fill_53178_14 (fun x2_14 => ?_)
    refine hf_goto (pc := 17) 5 dJ7_fill_53178_17 rfl ?_
    exact hf_sub [1, 2, 0, 3] rfl (hrec_5 x2_14)
set_option maxRecDepth 20000 in
theorem j_J7_fill_53178_5 (x0 x1 x2 x3 : Int) : hf_J M_J7_fill_53178 5 [(0, 2, x0), (1, 0, x1), (2, 0, x2), (3, 0, x3)] [] (f_J7_fill_53178_5 x0 x1 x2 x3) :=
  hf_Jfx (L := fun s => [(0, 2, x0), (1, 0, x1), (2, 0, s), (3, 0, x3)]) (fun rec hrec s => jb_J7_fill_53178_5 x0 x1 x3 rec hrec s) hf_N x2
set_option maxRecDepth 20000 in
theorem c_J7_fill_53178 (x0 x1 : Int) : hf_Met M_J7_fill_53178 [2, 0] [x0, x1] (f_J7_fill_53178 x0 x1) := by
  refine hf_met rfl (by decide) (by decide) (by decide) ?_
  show hf_J M_J7_fill_53178 0 [(0, 2, x0), (1, 0, x1)] [] _
  refine hf_iconst (pc := 0) dJ7_fill_53178_0 ?_
  refine hf_ist_n (pc := 1) (lv' := [(2, 0, 0), (0, 2, x0), (1, 0, x1)]) rfl (by decide) rfl dJ7_fill_53178_1 ?_
  refine hf_ald_n (pc := 2) 1 rfl rfl dJ7_fill_53178_2 ?_
  refine hf_alen (pc := 3) 20 (by decide) (by decide) dJ7_fill_53178_3 (fun v3 => ?_)
  refine hf_ist_n (pc := 4) (lv' := [(3, 0, v3), (2, 0, 0), (0, 2, x0), (1, 0, x1)]) rfl (by decide) rfl dJ7_fill_53178_4 ?_
  exact hf_sub [2, 3, 1, 0] rfl (j_J7_fill_53178_5 x0 x1 0 v3)
/-! Stair.<init>()V -/
def M_X8_init : hf_D := (yX8_init, cX8_init, 1, none, 1, 23)
def f_X8_init (x0 : Int) : hf_M Int :=
  hf_ob 8 x0 (hf_bd (hf_pf 8 0 x0 20) (fun _ => hf_bd (hf_na 20 3) (fun v12 => hf_bd (hf_pf 8 1 x0 v12) (fun _ => hf_bd (hf_na 20 3) (fun v19 => hf_bd (hf_as 20 v19 0 2) (fun _ => hf_bd (hf_as 20 v19 1 0) (fun _ => hf_bd (hf_as 20 v19 2 0) (fun _ => hf_bd (hf_pf 8 2 x0 v19) (fun _ => hf_bd (hf_na 20 3) (fun v38 => hf_bd (hf_as 20 v38 0 1) (fun _ => hf_bd (hf_as 20 v38 1 1) (fun _ => hf_bd (hf_as 20 v38 2 1) (fun _ => hf_bd (hf_pf 8 3 x0 v38) (fun _ => hf_bd (hf_pf 8 4 x0 1) (fun _ => hf_bd (hf_pf 8 5 x0 0) (fun _ => hf_bd (hf_na 20 41) (fun v68 => hf_bd (hf_pf 8 6 x0 v68) (fun _ => hf_bd (hf_pf 8 7 x0 0) (fun _ => hf_bd (hf_gf 8 6 x0) (fun v79 => hf_bd (f_J7_fill_53178 v79 1) (fun _ => hf_ret 0)))))))))))))))))))))
theorem cal_X8_init : hf_cix M_X8_init 0 := ⟨⟨ii_X8, kc_X8_init, by decide, by decide, by decide +kernel⟩, ki_X8_init, rfl⟩
set_option maxRecDepth 20000 in
theorem c_X8_init (x0 : Int) : hf_Met M_X8_init [2] [x0] (f_X8_init x0) := by
  refine hf_met rfl (by decide) (by decide) (by decide) ?_
  show hf_J M_X8_init 0 [(0, 2, x0)] [] _
  refine hf_ald_n (pc := 0) 0 rfl rfl dX8_init_0 ?_
  refine hf_objinit (pc := 1) 8 ml_X8_3 oi_in oi_co ⟨hf_le rfl, hf_le rfl⟩ dX8_init_1 ?_
  refine hf_ald_n (pc := 4) 0 rfl rfl dX8_init_4 ?_
  refine hf_bipush (pc := 5) dX8_init_5 (by decide) ?_
  refine hf_putf (pc := 7) fl_X8_9 trivial dX8_init_7 ?_
  refine hf_ald_n (pc := 10) 0 rfl rfl dX8_init_10 ?_
  refine hf_iconst (pc := 11) dX8_init_11 ?_
  refine hf_newa0 (pc := 12) (tg := 20) (by decide) (by decide) rfl ac_int dX8_init_12 (fun v12 => ?_)
  refine hf_putfF (pc := 14) fl_X8_15 rfl (fun q hq => by cases hq; rfl) trivial dX8_init_14 ?_
  refine hf_ald_n (pc := 17) 0 rfl rfl dX8_init_17 ?_
  refine hf_iconst (pc := 18) dX8_init_18 ?_
  refine hf_newa0 (pc := 19) (tg := 20) (by decide) (by decide) rfl ac_int dX8_init_19 (fun v19 => ?_)
  refine hf_dup (pc := 21) (by decide) dX8_init_21 ?_
  refine hf_iconst (pc := 22) dX8_init_22 ?_
  refine hf_iconst (pc := 23) dX8_init_23 ?_
  refine hf_iast (pc := 24) dX8_init_24 ?_
  refine hf_dup (pc := 25) (by decide) dX8_init_25 ?_
  refine hf_iconst (pc := 26) dX8_init_26 ?_
  refine hf_iconst (pc := 27) dX8_init_27 ?_
  refine hf_iast (pc := 28) dX8_init_28 ?_
  refine hf_dup (pc := 29) (by decide) dX8_init_29 ?_
  refine hf_iconst (pc := 30) dX8_init_30 ?_
  refine hf_iconst (pc := 31) dX8_init_31 ?_
  refine hf_iast (pc := 32) dX8_init_32 ?_
  refine hf_putfF (pc := 33) fl_X8_19 rfl (fun q hq => by cases hq; rfl) trivial dX8_init_33 ?_
  refine hf_ald_n (pc := 36) 0 rfl rfl dX8_init_36 ?_
  refine hf_iconst (pc := 37) dX8_init_37 ?_
  refine hf_newa0 (pc := 38) (tg := 20) (by decide) (by decide) rfl ac_int dX8_init_38 (fun v38 => ?_)
  refine hf_dup (pc := 40) (by decide) dX8_init_40 ?_
  refine hf_iconst (pc := 41) dX8_init_41 ?_
  refine hf_iconst (pc := 42) dX8_init_42 ?_
  refine hf_iast (pc := 43) dX8_init_43 ?_
  refine hf_dup (pc := 44) (by decide) dX8_init_44 ?_
  refine hf_iconst (pc := 45) dX8_init_45 ?_
  refine hf_iconst (pc := 46) dX8_init_46 ?_
  refine hf_iast (pc := 47) dX8_init_47 ?_
  refine hf_dup (pc := 48) (by decide) dX8_init_48 ?_
  refine hf_iconst (pc := 49) dX8_init_49 ?_
  refine hf_iconst (pc := 50) dX8_init_50 ?_
  refine hf_iast (pc := 51) dX8_init_51 ?_
  refine hf_putfF (pc := 52) fl_X8_22 rfl (fun q hq => by cases hq; rfl) trivial dX8_init_52 ?_
  refine hf_ald_n (pc := 55) 0 rfl rfl dX8_init_55 ?_
  refine hf_iconst (pc := 56) dX8_init_56 ?_
  refine hf_putf (pc := 57) fl_X8_25 trivial dX8_init_57 ?_
  refine hf_ald_n (pc := 60) 0 rfl rfl dX8_init_60 ?_
  refine hf_iconst (pc := 61) dX8_init_61 ?_
  refine hf_putf (pc := 62) fl_X8_28 trivial dX8_init_62 ?_
  refine hf_ald_n (pc := 65) 0 rfl rfl dX8_init_65 ?_
  refine hf_bipush (pc := 66) dX8_init_66 (by decide) ?_
  refine hf_newa0 (pc := 68) (tg := 20) (by decide) (by decide) rfl ac_int dX8_init_68 (fun v68 => ?_)
  refine hf_putfF (pc := 70) fl_X8_31 rfl (fun q hq => by cases hq; rfl) trivial dX8_init_70 ?_
  refine hf_ald_n (pc := 73) 0 rfl rfl dX8_init_73 ?_
  refine hf_iconst (pc := 74) dX8_init_74 ?_
  refine hf_putf (pc := 75) fl_X8_34 trivial dX8_init_75 ?_
  refine hf_ald_n (pc := 78) 0 rfl rfl dX8_init_78 ?_
  refine hf_getf (pc := 79) fl_X8_31 dX8_init_79 (fun v79 => ?_)
  refine hf_iconst (pc := 82) dX8_init_82 ?_
  refine hf_cS (pc := 83) (N := M_J7_fill_53178) (ts := [2, 0]) (vs := [v79, 1]) (st := []) (fun r => []) (c_J7_fill_53178 v79 1) cal_J7_fill_53178 ml_X8_37 ⟨hf_le rfl, hf_le rfl⟩ (hf_le rfl) ⟨rfl, rfl⟩ rfl dX8_init_83 (fun _ => rfl) (fun _ => ?_)
  exact hf_Jret (pc := 86) dX8_init_86 (fun _ => rfl)
/-! Stair.renew(I)V -/
def M_X8_renew : hf_D := (yX8_renew, cX8_renew, 2, none, 1, 23)
def f_X8_renew (x0 x1 : Int) : hf_M Int :=
  hf_bd (hf_pf 8 0 x0 x1) (fun _ => hf_bd (hf_gf 8 6 x0) (fun v6 => hf_bd (f_J7_fill_53178 v6 1) (fun _ => hf_bd (hf_gf 8 7 x0) (fun v15 => hf_bd (hf_pf 8 7 x0 (v15 + 1)) (fun _ => hf_ret 0)))))
theorem cal_X8_renew : hf_cv M_X8_renew 8 1 := ⟨⟨ii_X8, kc_X8_renew, by decide, by decide, by decide +kernel⟩, ki_X8_renew, kv_X8_renew, _, rfl, rfl⟩
set_option maxRecDepth 20000 in
theorem c_X8_renew (x0 x1 : Int) : hf_Met M_X8_renew [2, 0] [x0, x1] (f_X8_renew x0 x1) := by
  refine hf_met rfl (by decide) (by decide) (by decide) ?_
  show hf_J M_X8_renew 0 [(0, 2, x0), (1, 0, x1)] [] _
  refine hf_ald_n (pc := 0) 0 rfl rfl dX8_renew_0 ?_
  refine hf_ild_n (pc := 1) 1 rfl rfl dX8_renew_1 ?_
  refine hf_putf (pc := 2) fl_X8_9 trivial dX8_renew_2 ?_
  refine hf_ald_n (pc := 5) 0 rfl rfl dX8_renew_5 ?_
  refine hf_getf (pc := 6) fl_X8_31 dX8_renew_6 (fun v6 => ?_)
  refine hf_iconst (pc := 9) dX8_renew_9 ?_
  refine hf_cS (pc := 10) (N := M_J7_fill_53178) (ts := [2, 0]) (vs := [v6, 1]) (st := []) (fun r => []) (c_J7_fill_53178 v6 1) cal_J7_fill_53178 ml_X8_37 ⟨hf_le rfl, hf_le rfl⟩ (hf_le rfl) ⟨rfl, rfl⟩ rfl dX8_renew_10 (fun _ => rfl) (fun _ => ?_)
  refine hf_ald_n (pc := 13) 0 rfl rfl dX8_renew_13 ?_
  refine hf_dup (pc := 14) (by decide) dX8_renew_14 ?_
  refine hf_getf (pc := 15) fl_X8_34 dX8_renew_15 (fun v15 => ?_)
  refine hf_iconst (pc := 18) dX8_renew_18 ?_
  refine hf_iadd (pc := 19) dX8_renew_19 ?_
  refine hf_putf (pc := 20) fl_X8_34 trivial dX8_renew_20 ?_
  exact hf_Jret (pc := 23) dX8_renew_23 (fun _ => rfl)
/-! Stair.hasKind(I)Z -/
def M_X8_hasKind : hf_D := (yX8_hasKind, cX8_hasKind, 2, some .boolean, 0, 0)
def f_X8_hasKind (x0 x1 : Int) : hf_M Int :=
  hf_cz x1 (x1 < 0) (hf_ret 0) (hf_cb x1 3 (3 ≤ x1) (hf_ret 0) (hf_ret 1))
theorem cal_X8_hasKind : hf_cv M_X8_hasKind 8 1 := ⟨⟨ii_X8, kc_X8_hasKind, by decide, by decide, by decide +kernel⟩, ki_X8_hasKind, kv_X8_hasKind, _, rfl, rfl⟩
set_option maxRecDepth 20000 in
theorem c_X8_hasKind (x0 x1 : Int) : hf_Met M_X8_hasKind [2, 0] [x0, x1] (f_X8_hasKind x0 x1) := by
  refine hf_met rfl (by decide) (by decide) (by decide) ?_
  show hf_J M_X8_hasKind 0 [(0, 2, x0), (1, 0, x1)] [] _
  refine hf_ild_n (pc := 0) 1 rfl rfl dX8_hasKind_0 ?_
  refine hf_if_lt (pc := 1) 13 dX8_hasKind_1 rfl ?_ ?_
  · refine hf_iconst (pc := 13) dX8_hasKind_13 ?_
    exact hf_Jret (pc := 14) (r := 0) ⟨dX8_hasKind_14, Or.inl rfl⟩ (fun _ => rfl)
  · refine hf_ild_n (pc := 4) 1 rfl rfl dX8_hasKind_4 ?_
    refine hf_iconst (pc := 5) dX8_hasKind_5 ?_
    refine hf_icmp_ge (pc := 6) 13 dX8_hasKind_6 rfl ?_ ?_
    · refine hf_iconst (pc := 13) dX8_hasKind_13 ?_
      exact hf_Jret (pc := 14) (r := 0) ⟨dX8_hasKind_14, Or.inl rfl⟩ (fun _ => rfl)
    · refine hf_iconst (pc := 9) dX8_hasKind_9 ?_
      refine hf_goto (pc := 10) 14 dX8_hasKind_10 rfl ?_
      exact hf_Jret (pc := 14) (r := 1) ⟨dX8_hasKind_14, Or.inr rfl⟩ (fun _ => rfl)
/-! HighFall.isWithin(II)Z -/
def M_X11_isWithin : hf_D := (yX11_isWithin, cX11_isWithin, 2, some .boolean, 0, 0)
def f_X11_isWithin (x0 x1 : Int) : hf_M Int :=
  hf_cz x0 (x0 < 0) (hf_ret 0) (hf_cb x0 x1 (x1 < x0) (hf_ret 0) (hf_ret 1))
theorem cal_X11_isWithin : hf_csx M_X11_isWithin 2 := ⟨⟨ii_X11, kc_X11_isWithin, by decide, by decide, by decide +kernel⟩, ks_X11_isWithin⟩
set_option maxRecDepth 20000 in
theorem c_X11_isWithin (x0 x1 : Int) : hf_Met M_X11_isWithin [0, 0] [x0, x1] (f_X11_isWithin x0 x1) := by
  refine hf_met rfl (by decide) (by decide) (by decide) ?_
  show hf_J M_X11_isWithin 0 [(0, 0, x0), (1, 0, x1)] [] _
  refine hf_ild_n (pc := 0) 0 rfl rfl dX11_isWithin_0 ?_
  refine hf_if_lt (pc := 1) 13 dX11_isWithin_1 rfl ?_ ?_
  · refine hf_iconst (pc := 13) dX11_isWithin_13 ?_
    exact hf_Jret (pc := 14) (r := 0) ⟨dX11_isWithin_14, Or.inl rfl⟩ (fun _ => rfl)
  · refine hf_ild_n (pc := 4) 0 rfl rfl dX11_isWithin_4 ?_
    refine hf_ild_n (pc := 5) 1 rfl rfl dX11_isWithin_5 ?_
    refine hf_icmp_gt (pc := 6) 13 dX11_isWithin_6 rfl ?_ ?_
    · refine hf_iconst (pc := 13) dX11_isWithin_13 ?_
      exact hf_Jret (pc := 14) (r := 0) ⟨dX11_isWithin_14, Or.inl rfl⟩ (fun _ => rfl)
    · refine hf_iconst (pc := 9) dX11_isWithin_9 ?_
      refine hf_goto (pc := 10) 14 dX11_isWithin_10 rfl ?_
      exact hf_Jret (pc := 14) (r := 1) ⟨dX11_isWithin_14, Or.inr rfl⟩ (fun _ => rfl)
/-! Stair.setKind(IIII)V -/
def M_X8_setKind : hf_D := (yX8_setKind, cX8_setKind, 5, none, 0, 0)
def f_X8_setKind (x0 x1 x2 x3 x4 : Int) : hf_M Int :=
  hf_bd (hf_gf 8 1 x0) (fun v1 => hf_bd (hf_as 20 v1 x1 x2) (fun _ => hf_bd (hf_gf 8 2 x0) (fun v8 => hf_bd (hf_as 20 v8 x1 x3) (fun _ => hf_bd (hf_gf 8 3 x0) (fun v15 => hf_bd (hf_as 20 v15 x1 x4) (fun _ => hf_bd (hf_gf 8 7 x0) (fun v24 => hf_bd (hf_pf 8 7 x0 (v24 + 1)) (fun _ => hf_ret 0))))))))
theorem cal_X8_setKind : hf_cv M_X8_setKind 8 4 := ⟨⟨ii_X8, kc_X8_setKind, by decide, by decide, by decide +kernel⟩, ki_X8_setKind, kv_X8_setKind, _, rfl, rfl⟩
set_option maxRecDepth 20000 in
theorem c_X8_setKind (x0 x1 x2 x3 x4 : Int) : hf_Met M_X8_setKind [2, 0, 0, 0, 0] [x0, x1, x2, x3, x4] (f_X8_setKind x0 x1 x2 x3 x4) := by
  refine hf_met rfl (by decide) (by decide) (by decide) ?_
  show hf_J M_X8_setKind 0 [(0, 2, x0), (1, 0, x1), (2, 0, x2), (3, 0, x3), (4, 0, x4)] [] _
  refine hf_ald_n (pc := 0) 0 rfl rfl dX8_setKind_0 ?_
  refine hf_getf (pc := 1) fl_X8_15 dX8_setKind_1 (fun v1 => ?_)
  refine hf_ild_n (pc := 4) 1 rfl rfl dX8_setKind_4 ?_
  refine hf_ild_n (pc := 5) 2 rfl rfl dX8_setKind_5 ?_
  refine hf_iast (pc := 6) dX8_setKind_6 ?_
  refine hf_ald_n (pc := 7) 0 rfl rfl dX8_setKind_7 ?_
  refine hf_getf (pc := 8) fl_X8_19 dX8_setKind_8 (fun v8 => ?_)
  refine hf_ild_n (pc := 11) 1 rfl rfl dX8_setKind_11 ?_
  refine hf_ild_n (pc := 12) 3 rfl rfl dX8_setKind_12 ?_
  refine hf_iast (pc := 13) dX8_setKind_13 ?_
  refine hf_ald_n (pc := 14) 0 rfl rfl dX8_setKind_14 ?_
  refine hf_getf (pc := 15) fl_X8_22 dX8_setKind_15 (fun v15 => ?_)
  refine hf_ild_n (pc := 18) 1 rfl rfl dX8_setKind_18 ?_
  refine hf_ild (pc := 19) 4 rfl dX8_setKind_19 ?_
  refine hf_iast (pc := 21) dX8_setKind_21 ?_
  refine hf_ald_n (pc := 22) 0 rfl rfl dX8_setKind_22 ?_
  refine hf_dup (pc := 23) (by decide) dX8_setKind_23 ?_
  refine hf_getf (pc := 24) fl_X8_34 dX8_setKind_24 (fun v24 => ?_)
  refine hf_iconst (pc := 27) dX8_setKind_27 ?_
  refine hf_iadd (pc := 28) dX8_setKind_28 ?_
  refine hf_putf (pc := 29) fl_X8_34 trivial dX8_setKind_29 ?_
  exact hf_Jret (pc := 32) dX8_setKind_32 (fun _ => rfl)
/-! Stair.setCosts(II)V -/
def M_X8_setCosts : hf_D := (yX8_setCosts, cX8_setCosts, 3, none, 0, 0)
def f_X8_setCosts (x0 x1 x2 : Int) : hf_M Int :=
  hf_bd (hf_pf 8 4 x0 x1) (fun _ => hf_bd (hf_pf 8 5 x0 x2) (fun _ => hf_bd (hf_gf 8 7 x0) (fun v12 => hf_bd (hf_pf 8 7 x0 (v12 + 1)) (fun _ => hf_ret 0))))
theorem cal_X8_setCosts : hf_cv M_X8_setCosts 8 2 := ⟨⟨ii_X8, kc_X8_setCosts, by decide, by decide, by decide +kernel⟩, ki_X8_setCosts, kv_X8_setCosts, _, rfl, rfl⟩
set_option maxRecDepth 20000 in
theorem c_X8_setCosts (x0 x1 x2 : Int) : hf_Met M_X8_setCosts [2, 0, 0] [x0, x1, x2] (f_X8_setCosts x0 x1 x2) := by
  refine hf_met rfl (by decide) (by decide) (by decide) ?_
  show hf_J M_X8_setCosts 0 [(0, 2, x0), (1, 0, x1), (2, 0, x2)] [] _
  refine hf_ald_n (pc := 0) 0 rfl rfl dX8_setCosts_0 ?_
  refine hf_ild_n (pc := 1) 1 rfl rfl dX8_setCosts_1 ?_
  refine hf_putf (pc := 2) fl_X8_25 trivial dX8_setCosts_2 ?_
  refine hf_ald_n (pc := 5) 0 rfl rfl dX8_setCosts_5 ?_
  refine hf_ild_n (pc := 6) 2 rfl rfl dX8_setCosts_6 ?_
  refine hf_putf (pc := 7) fl_X8_28 trivial dX8_setCosts_7 ?_
  refine hf_ald_n (pc := 10) 0 rfl rfl dX8_setCosts_10 ?_
  refine hf_dup (pc := 11) (by decide) dX8_setCosts_11 ?_
  refine hf_getf (pc := 12) fl_X8_34 dX8_setCosts_12 (fun v12 => ?_)
  refine hf_iconst (pc := 15) dX8_setCosts_15 ?_
  refine hf_iadd (pc := 16) dX8_setCosts_16 ?_
  refine hf_putf (pc := 17) fl_X8_34 trivial dX8_setCosts_17 ?_
  exact hf_Jret (pc := 20) dX8_setCosts_20 (fun _ => rfl)
/-! Stair.hasStrength(I)Z -/
def M_X8_hasStrength : hf_D := (yX8_hasStrength, cX8_hasStrength, 2, some .boolean, 0, 0)
def f_X8_hasStrength (x0 x1 : Int) : hf_M Int :=
  hf_cz x1 (x1 < 0) (hf_ret 0) (hf_bd (hf_gf 8 0 x0) (fun v6 => hf_cb x1 v6 (v6 < x1) (hf_ret 0) (hf_ret 1)))
theorem cal_X8_hasStrength : hf_cv M_X8_hasStrength 8 1 := ⟨⟨ii_X8, kc_X8_hasStrength, by decide, by decide, by decide +kernel⟩, ki_X8_hasStrength, kv_X8_hasStrength, _, rfl, rfl⟩
set_option maxRecDepth 20000 in
theorem c_X8_hasStrength (x0 x1 : Int) : hf_Met M_X8_hasStrength [2, 0] [x0, x1] (f_X8_hasStrength x0 x1) := by
  refine hf_met rfl (by decide) (by decide) (by decide) ?_
  show hf_J M_X8_hasStrength 0 [(0, 2, x0), (1, 0, x1)] [] _
  refine hf_ild_n (pc := 0) 1 rfl rfl dX8_hasStrength_0 ?_
  refine hf_if_lt (pc := 1) 16 dX8_hasStrength_1 rfl ?_ ?_
  · refine hf_iconst (pc := 16) dX8_hasStrength_16 ?_
    exact hf_Jret (pc := 17) (r := 0) ⟨dX8_hasStrength_17, Or.inl rfl⟩ (fun _ => rfl)
  · refine hf_ild_n (pc := 4) 1 rfl rfl dX8_hasStrength_4 ?_
    refine hf_ald_n (pc := 5) 0 rfl rfl dX8_hasStrength_5 ?_
    refine hf_getf (pc := 6) fl_X8_9 dX8_hasStrength_6 (fun v6 => ?_)
    refine hf_icmp_gt (pc := 9) 16 dX8_hasStrength_9 rfl ?_ ?_
    · refine hf_iconst (pc := 16) dX8_hasStrength_16 ?_
      exact hf_Jret (pc := 17) (r := 0) ⟨dX8_hasStrength_17, Or.inl rfl⟩ (fun _ => rfl)
    · refine hf_iconst (pc := 12) dX8_hasStrength_12 ?_
      refine hf_goto (pc := 13) 17 dX8_hasStrength_13 rfl ?_
      exact hf_Jret (pc := 17) (r := 1) ⟨dX8_hasStrength_17, Or.inr rfl⟩ (fun _ => rfl)
/-! Stair.setWeight(II)V -/
def M_X8_setWeight : hf_D := (yX8_setWeight, cX8_setWeight, 3, none, 0, 0)
def f_X8_setWeight (x0 x1 x2 : Int) : hf_M Int :=
  hf_bd (hf_gf 8 6 x0) (fun v1 => hf_bd (hf_as 20 v1 x1 x2) (fun _ => hf_bd (hf_gf 8 7 x0) (fun v9 => hf_bd (hf_pf 8 7 x0 (v9 + 1)) (fun _ => hf_ret 0))))
theorem cal_X8_setWeight : hf_cv M_X8_setWeight 8 2 := ⟨⟨ii_X8, kc_X8_setWeight, by decide, by decide, by decide +kernel⟩, ki_X8_setWeight, kv_X8_setWeight, _, rfl, rfl⟩
set_option maxRecDepth 20000 in
theorem c_X8_setWeight (x0 x1 x2 : Int) : hf_Met M_X8_setWeight [2, 0, 0] [x0, x1, x2] (f_X8_setWeight x0 x1 x2) := by
  refine hf_met rfl (by decide) (by decide) (by decide) ?_
  show hf_J M_X8_setWeight 0 [(0, 2, x0), (1, 0, x1), (2, 0, x2)] [] _
  refine hf_ald_n (pc := 0) 0 rfl rfl dX8_setWeight_0 ?_
  refine hf_getf (pc := 1) fl_X8_31 dX8_setWeight_1 (fun v1 => ?_)
  refine hf_ild_n (pc := 4) 1 rfl rfl dX8_setWeight_4 ?_
  refine hf_ild_n (pc := 5) 2 rfl rfl dX8_setWeight_5 ?_
  refine hf_iast (pc := 6) dX8_setWeight_6 ?_
  refine hf_ald_n (pc := 7) 0 rfl rfl dX8_setWeight_7 ?_
  refine hf_dup (pc := 8) (by decide) dX8_setWeight_8 ?_
  refine hf_getf (pc := 9) fl_X8_34 dX8_setWeight_9 (fun v9 => ?_)
  refine hf_iconst (pc := 12) dX8_setWeight_12 ?_
  refine hf_iadd (pc := 13) dX8_setWeight_13 ?_
  refine hf_putf (pc := 14) fl_X8_34 trivial dX8_setWeight_14 ?_
  exact hf_Jret (pc := 17) dX8_setWeight_17 (fun _ => rfl)
/-! Stair.hasStep(I)Z -/
def M_X8_hasStep : hf_D := (yX8_hasStep, cX8_hasStep, 2, some .boolean, 0, 0)
def f_X8_hasStep (x0 x1 : Int) : hf_M Int :=
  hf_cb x1 1 (x1 < 1) (hf_ret 0) (hf_bd (hf_gf 8 0 x0) (fun v7 => hf_cb x1 v7 (v7 < x1) (hf_ret 0) (hf_ret 1)))
theorem cal_X8_hasStep : hf_cv M_X8_hasStep 8 1 := ⟨⟨ii_X8, kc_X8_hasStep, by decide, by decide, by decide +kernel⟩, ki_X8_hasStep, kv_X8_hasStep, _, rfl, rfl⟩
set_option maxRecDepth 20000 in
theorem c_X8_hasStep (x0 x1 : Int) : hf_Met M_X8_hasStep [2, 0] [x0, x1] (f_X8_hasStep x0 x1) := by
  refine hf_met rfl (by decide) (by decide) (by decide) ?_
  show hf_J M_X8_hasStep 0 [(0, 2, x0), (1, 0, x1)] [] _
  refine hf_ild_n (pc := 0) 1 rfl rfl dX8_hasStep_0 ?_
  refine hf_iconst (pc := 1) dX8_hasStep_1 ?_
  refine hf_icmp_lt (pc := 2) 17 dX8_hasStep_2 rfl ?_ ?_
  · refine hf_iconst (pc := 17) dX8_hasStep_17 ?_
    exact hf_Jret (pc := 18) (r := 0) ⟨dX8_hasStep_18, Or.inl rfl⟩ (fun _ => rfl)
  · refine hf_ild_n (pc := 5) 1 rfl rfl dX8_hasStep_5 ?_
    refine hf_ald_n (pc := 6) 0 rfl rfl dX8_hasStep_6 ?_
    refine hf_getf (pc := 7) fl_X8_9 dX8_hasStep_7 (fun v7 => ?_)
    refine hf_icmp_gt (pc := 10) 17 dX8_hasStep_10 rfl ?_ ?_
    · refine hf_iconst (pc := 17) dX8_hasStep_17 ?_
      exact hf_Jret (pc := 18) (r := 0) ⟨dX8_hasStep_18, Or.inl rfl⟩ (fun _ => rfl)
    · refine hf_iconst (pc := 13) dX8_hasStep_13 ?_
      refine hf_goto (pc := 14) 18 dX8_hasStep_14 rfl ?_
      exact hf_Jret (pc := 18) (r := 1) ⟨dX8_hasStep_18, Or.inr rfl⟩ (fun _ => rfl)
/-! Stair.breaks(III)Z -/
def M_X8_breaks : hf_D := (yX8_breaks, cX8_breaks, 4, some .boolean, 0, 0)
def f_X8_breaks (x0 x1 x2 x3 : Int) : hf_M Int :=
  hf_bd (hf_gf 8 1 x0) (fun v3 => hf_bd (hf_al 20 v3 x1) (fun v7 => hf_ck (hf_inI x2 ∧ hf_inI (x3 + v7)) (hf_bd (hf_ret (if x2 ≤ (x3 + v7) then 0 else 1)) (fun w17 => hf_ck (w17 = 0 ∨ w17 = 1) (hf_ret w17)))))
theorem cal_X8_breaks : hf_cv M_X8_breaks 8 3 := ⟨⟨ii_X8, kc_X8_breaks, by decide, by decide, by decide +kernel⟩, ki_X8_breaks, kv_X8_breaks, _, rfl, rfl⟩
set_option maxRecDepth 20000 in
theorem c_X8_breaks (x0 x1 x2 x3 : Int) : hf_Met M_X8_breaks [2, 0, 0, 0] [x0, x1, x2, x3] (f_X8_breaks x0 x1 x2 x3) := by
  refine hf_met rfl (by decide) (by decide) (by decide) ?_
  show hf_J M_X8_breaks 0 [(0, 2, x0), (1, 0, x1), (2, 0, x2), (3, 0, x3)] [] _
  refine hf_ild_n (pc := 0) 2 rfl rfl dX8_breaks_0 ?_
  refine hf_ild_n (pc := 1) 3 rfl rfl dX8_breaks_1 ?_
  refine hf_ald_n (pc := 2) 0 rfl rfl dX8_breaks_2 ?_
  refine hf_getf (pc := 3) fl_X8_15 dX8_breaks_3 (fun v3 => ?_)
  refine hf_ild_n (pc := 6) 1 rfl rfl dX8_breaks_6 ?_
  refine hf_iald (pc := 7) dX8_breaks_7 (fun v7 => ?_)
  refine hf_iadd (pc := 8) dX8_breaks_8 ?_
  refine hf_Jdib (pc := 9) (pcM := 17) (t := 0) (stM := []) (fun w17 => ?_) (fun a1 a2 => ?_)
  · refine hf_Jck (fun hz => ?_)
    exact hf_Jret (pc := 17) ⟨dX8_breaks_17, hz⟩ (fun _ => rfl)
  · refine hf_icmp_le (pc := 9) 16 dX8_breaks_9 rfl ?_ ?_
    · refine hf_iconst (pc := 16) dX8_breaks_16 ?_
      exact a1
    · refine hf_iconst (pc := 12) dX8_breaks_12 ?_
      refine hf_goto (pc := 13) 17 dX8_breaks_13 rfl ?_
      exact a2
/-! Stair.costOf(IIZ)I -/
def M_X8_costOf : hf_D := (yX8_costOf, cX8_costOf, 4, some .int, 0, 0)
def f_X8_costOf_25 (s0 s1 : Int) : hf_M Int :=
  hf_ret (s0 + s1)
def f_X8_costOf (x0 x1 x2 x3 : Int) : hf_M Int :=
  hf_bd (hf_gf 8 4 x0) (fun v1 => hf_bd (hf_gf 8 5 x0) (fun v5 => hf_cz x3 (x3 = 0) (f_X8_costOf_25 (v1 + (v5 * x2)) 0) (hf_bd (hf_gf 8 3 x0) (fun v16 => hf_bd (hf_al 20 v16 x1) (fun v20 => f_X8_costOf_25 (v1 + (v5 * x2)) v20)))))
theorem cal_X8_costOf : hf_cv M_X8_costOf 8 3 := ⟨⟨ii_X8, kc_X8_costOf, by decide, by decide, by decide +kernel⟩, ki_X8_costOf, kv_X8_costOf, _, rfl, rfl⟩
set_option maxRecDepth 20000 in
theorem j_X8_costOf_25 (s0 s1 : Int) : hf_J M_X8_costOf 25 [] [(0, s1), (0, s0)] (f_X8_costOf_25 s0 s1) := by
  refine hf_iadd (pc := 25) dX8_costOf_25 ?_
  exact hf_Jret (pc := 26) dX8_costOf_26 (fun _ => rfl)
set_option maxRecDepth 20000 in
theorem c_X8_costOf (x0 x1 x2 x3 : Int) : hf_Met M_X8_costOf [2, 0, 0, 0] [x0, x1, x2, x3] (f_X8_costOf x0 x1 x2 x3) := by
  refine hf_met rfl (by decide) (by decide) (by decide) ?_
  show hf_J M_X8_costOf 0 [(0, 2, x0), (1, 0, x1), (2, 0, x2), (3, 0, x3)] [] _
  refine hf_ald_n (pc := 0) 0 rfl rfl dX8_costOf_0 ?_
  refine hf_getf (pc := 1) fl_X8_25 dX8_costOf_1 (fun v1 => ?_)
  refine hf_ald_n (pc := 4) 0 rfl rfl dX8_costOf_4 ?_
  refine hf_getf (pc := 5) fl_X8_28 dX8_costOf_5 (fun v5 => ?_)
  refine hf_ild_n (pc := 8) 2 rfl rfl dX8_costOf_8 ?_
  refine hf_imul (pc := 9) dX8_costOf_9 ?_
  refine hf_iadd (pc := 10) dX8_costOf_10 ?_
  refine hf_ild_n (pc := 11) 3 rfl rfl dX8_costOf_11 ?_
  refine hf_if_eq (pc := 12) 24 dX8_costOf_12 rfl ?_ ?_
  · refine hf_iconst (pc := 24) dX8_costOf_24 ?_
    exact hf_sub [] rfl (j_X8_costOf_25 (v1 + (v5 * x2)) 0)
  · refine hf_ald_n (pc := 15) 0 rfl rfl dX8_costOf_15 ?_
    refine hf_getf (pc := 16) fl_X8_22 dX8_costOf_16 (fun v16 => ?_)
    refine hf_ild_n (pc := 19) 1 rfl rfl dX8_costOf_19 ?_
    refine hf_iald (pc := 20) dX8_costOf_20 (fun v20 => ?_)
    refine hf_goto (pc := 21) 25 dX8_costOf_21 rfl ?_
    exact hf_sub [] rfl (j_X8_costOf_25 (v1 + (v5 * x2)) v20)
/-! Stair.allPieces()I -/
def M_X8_allPieces : hf_D := (yX8_allPieces, cX8_allPieces, 1, some .int, 0, 0)
def f_X8_allPieces (x0 : Int) : hf_M Int :=
  hf_bd (hf_gf 8 2 x0) (fun v1 => hf_bd (hf_al 20 v1 0) (fun v5 => hf_bd (hf_gf 8 2 x0) (fun v8 => hf_bd (hf_al 20 v8 1) (fun v12 => hf_bd (hf_gf 8 2 x0) (fun v18 => hf_bd (hf_al 20 v18 2) (fun v22 => hf_ret ((v5 + (5 * v12)) + (25 * v22))))))))
theorem cal_X8_allPieces : hf_cv M_X8_allPieces 8 0 := ⟨⟨ii_X8, kc_X8_allPieces, by decide, by decide, by decide +kernel⟩, ki_X8_allPieces, kv_X8_allPieces, _, rfl, rfl⟩
set_option maxRecDepth 20000 in
theorem c_X8_allPieces (x0 : Int) : hf_Met M_X8_allPieces [2] [x0] (f_X8_allPieces x0) := by
  refine hf_met rfl (by decide) (by decide) (by decide) ?_
  show hf_J M_X8_allPieces 0 [(0, 2, x0)] [] _
  refine hf_ald_n (pc := 0) 0 rfl rfl dX8_allPieces_0 ?_
  refine hf_getf (pc := 1) fl_X8_19 dX8_allPieces_1 (fun v1 => ?_)
  refine hf_iconst (pc := 4) dX8_allPieces_4 ?_
  refine hf_iald (pc := 5) dX8_allPieces_5 (fun v5 => ?_)
  refine hf_iconst (pc := 6) dX8_allPieces_6 ?_
  refine hf_ald_n (pc := 7) 0 rfl rfl dX8_allPieces_7 ?_
  refine hf_getf (pc := 8) fl_X8_19 dX8_allPieces_8 (fun v8 => ?_)
  refine hf_iconst (pc := 11) dX8_allPieces_11 ?_
  refine hf_iald (pc := 12) dX8_allPieces_12 (fun v12 => ?_)
  refine hf_imul (pc := 13) dX8_allPieces_13 ?_
  refine hf_iadd (pc := 14) dX8_allPieces_14 ?_
  refine hf_bipush (pc := 15) dX8_allPieces_15 (by decide) ?_
  refine hf_ald_n (pc := 17) 0 rfl rfl dX8_allPieces_17 ?_
  refine hf_getf (pc := 18) fl_X8_19 dX8_allPieces_18 (fun v18 => ?_)
  refine hf_iconst (pc := 21) dX8_allPieces_21 ?_
  refine hf_iald (pc := 22) dX8_allPieces_22 (fun v22 => ?_)
  refine hf_imul (pc := 23) dX8_allPieces_23 ?_
  refine hf_iadd (pc := 24) dX8_allPieces_24 ?_
  exact hf_Jret (pc := 25) dX8_allPieces_25 (fun _ => rfl)
/-! HighFall.unitOf(I)I -/
def M_X11_unitOf : hf_D := (yX11_unitOf, cX11_unitOf, 1, some .int, 0, 0)
def f_X11_unitOf (x0 : Int) : hf_M Int :=
  hf_cz x0 (¬ x0 = 0) (hf_cb x0 1 (¬ x0 = 1) (hf_ret 25) (hf_ret 5)) (hf_ret 1)
theorem cal_X11_unitOf : hf_csx M_X11_unitOf 1 := ⟨⟨ii_X11, kc_X11_unitOf, by decide, by decide, by decide +kernel⟩, ks_X11_unitOf⟩
set_option maxRecDepth 20000 in
theorem c_X11_unitOf (x0 : Int) : hf_Met M_X11_unitOf [0] [x0] (f_X11_unitOf x0) := by
  refine hf_met rfl (by decide) (by decide) (by decide) ?_
  show hf_J M_X11_unitOf 0 [(0, 0, x0)] [] _
  refine hf_ild_n (pc := 0) 0 rfl rfl dX11_unitOf_0 ?_
  refine hf_if_ne (pc := 1) 8 dX11_unitOf_1 rfl ?_ ?_
  · refine hf_ild_n (pc := 8) 0 rfl rfl dX11_unitOf_8 ?_
    refine hf_iconst (pc := 9) dX11_unitOf_9 ?_
    refine hf_icmp_ne (pc := 10) 17 dX11_unitOf_10 rfl ?_ ?_
    · refine hf_bipush (pc := 17) dX11_unitOf_17 (by decide) ?_
      exact hf_Jret (pc := 19) dX11_unitOf_19 (fun _ => rfl)
    · refine hf_iconst (pc := 13) dX11_unitOf_13 ?_
      refine hf_goto (pc := 14) 19 dX11_unitOf_14 rfl ?_
      exact hf_Jret (pc := 19) dX11_unitOf_19 (fun _ => rfl)
  · refine hf_iconst (pc := 4) dX11_unitOf_4 ?_
    refine hf_goto (pc := 5) 19 dX11_unitOf_5 rfl ?_
    exact hf_Jret (pc := 19) dX11_unitOf_19 (fun _ => rfl)
/-! HighFall.spanAt(II)I -/
def M_X11_spanAt : hf_D := (yX11_spanAt, cX11_spanAt, 2, some .int, 0, 0)
def f_X11_spanAt (x0 x1 : Int) : hf_M Int :=
  hf_bd (hf_dv (x1 * (x1 + 1)) 2) (fun v6 => hf_ret (v6 + x0))
theorem cal_X11_spanAt : hf_csx M_X11_spanAt 2 := ⟨⟨ii_X11, kc_X11_spanAt, by decide, by decide, by decide +kernel⟩, ks_X11_spanAt⟩
set_option maxRecDepth 20000 in
theorem c_X11_spanAt (x0 x1 : Int) : hf_Met M_X11_spanAt [0, 0] [x0, x1] (f_X11_spanAt x0 x1) := by
  refine hf_met rfl (by decide) (by decide) (by decide) ?_
  show hf_J M_X11_spanAt 0 [(0, 0, x0), (1, 0, x1)] [] _
  refine hf_ild_n (pc := 0) 1 rfl rfl dX11_spanAt_0 ?_
  refine hf_ild_n (pc := 1) 1 rfl rfl dX11_spanAt_1 ?_
  refine hf_iconst (pc := 2) dX11_spanAt_2 ?_
  refine hf_iadd (pc := 3) dX11_spanAt_3 ?_
  refine hf_imul (pc := 4) dX11_spanAt_4 ?_
  refine hf_iconst (pc := 5) dX11_spanAt_5 ?_
  refine hf_idiv (pc := 6) dX11_spanAt_6 (fun v6 => ?_)
  refine hf_ild_n (pc := 7) 0 rfl rfl dX11_spanAt_7 ?_
  refine hf_iadd (pc := 8) dX11_spanAt_8 ?_
  exact hf_Jret (pc := 9) dX11_spanAt_9 (fun _ => rfl)
/-! java/lang/Integer.bitCount(I)I -/
def M_J6_bitCount_0f7a4 : hf_D := (yJ6_bitCount_0f7a4, cJ6_bitCount_0f7a4, 1, some .int, 0, 0)
def f_J6_bitCount_0f7a4 (x0 : Int) : hf_M Int :=
  hf_bd (hf_ret (x0 - (hf_and (hf_ushr x0 1) 1431655765))) (fun x0_9 => hf_bd (hf_ret ((hf_and x0_9 858993459) + (hf_and (hf_ushr x0_9 2) 858993459))) (fun x0_23 => hf_bd (hf_ret (hf_and (x0_23 + (hf_ushr x0_23 4)) 252645135)) (fun x0_33 => hf_bd (hf_ret (x0_33 + (hf_ushr x0_33 8))) (fun x0_40 => hf_bd (hf_ret (x0_40 + (hf_ushr x0_40 16))) (fun x0_47 => hf_ret (hf_and x0_47 63))))))
theorem cal_J6_bitCount_0f7a4 : hf_csx M_J6_bitCount_0f7a4 1 := ⟨⟨ii_J6, kc_J6_bitCount_0f7a4, by decide, by decide, by decide +kernel⟩, ks_J6_bitCount_0f7a4⟩
set_option maxRecDepth 20000 in
theorem c_J6_bitCount_0f7a4 (x0 : Int) : hf_Met M_J6_bitCount_0f7a4 [0] [x0] (f_J6_bitCount_0f7a4 x0) := by
  refine hf_met rfl (by decide) (by decide) (by decide) ?_
  show hf_J M_J6_bitCount_0f7a4 0 [(0, 0, x0)] [] _
  refine hf_ild_n (pc := 0) 0 rfl rfl dJ6_bitCount_0f7a4_0 ?_
  refine hf_ild_n (pc := 1) 0 rfl rfl dJ6_bitCount_0f7a4_1 ?_
  refine hf_iconst (pc := 2) dJ6_bitCount_0f7a4_2 ?_
  refine hf_iushr (pc := 3) dJ6_bitCount_0f7a4_3 ?_
  refine hf_ldcw (pc := 4) (n := 1431655765) co_J6_265 (by decide) dJ6_bitCount_0f7a4_4 ?_
  refine hf_iand (pc := 7) dJ6_bitCount_0f7a4_7 ?_
  refine hf_isub (pc := 8) dJ6_bitCount_0f7a4_8 ?_
  refine hf_ist_nB (pc := 9) (fun y => [(0, 0, y)]) rfl (by decide) (fun _ => rfl) dJ6_bitCount_0f7a4_9 (fun x0_9 => ?_)
  refine hf_ild_n (pc := 10) 0 rfl rfl dJ6_bitCount_0f7a4_10 ?_
  refine hf_ldcw (pc := 11) (n := 858993459) co_J6_266 (by decide) dJ6_bitCount_0f7a4_11 ?_
  refine hf_iand (pc := 14) dJ6_bitCount_0f7a4_14 ?_
  refine hf_ild_n (pc := 15) 0 rfl rfl dJ6_bitCount_0f7a4_15 ?_
  refine hf_iconst (pc := 16) dJ6_bitCount_0f7a4_16 ?_
  refine hf_iushr (pc := 17) dJ6_bitCount_0f7a4_17 ?_
  refine hf_ldcw (pc := 18) (n := 858993459) co_J6_266 (by decide) dJ6_bitCount_0f7a4_18 ?_
  refine hf_iand (pc := 21) dJ6_bitCount_0f7a4_21 ?_
  refine hf_iadd (pc := 22) dJ6_bitCount_0f7a4_22 ?_
  refine hf_ist_nB (pc := 23) (fun y => [(0, 0, y)]) rfl (by decide) (fun _ => rfl) dJ6_bitCount_0f7a4_23 (fun x0_23 => ?_)
  refine hf_ild_n (pc := 24) 0 rfl rfl dJ6_bitCount_0f7a4_24 ?_
  refine hf_ild_n (pc := 25) 0 rfl rfl dJ6_bitCount_0f7a4_25 ?_
  refine hf_iconst (pc := 26) dJ6_bitCount_0f7a4_26 ?_
  refine hf_iushr (pc := 27) dJ6_bitCount_0f7a4_27 ?_
  refine hf_iadd (pc := 28) dJ6_bitCount_0f7a4_28 ?_
  refine hf_ldcw (pc := 29) (n := 252645135) co_J6_267 (by decide) dJ6_bitCount_0f7a4_29 ?_
  refine hf_iand (pc := 32) dJ6_bitCount_0f7a4_32 ?_
  refine hf_ist_nB (pc := 33) (fun y => [(0, 0, y)]) rfl (by decide) (fun _ => rfl) dJ6_bitCount_0f7a4_33 (fun x0_33 => ?_)
  refine hf_ild_n (pc := 34) 0 rfl rfl dJ6_bitCount_0f7a4_34 ?_
  refine hf_ild_n (pc := 35) 0 rfl rfl dJ6_bitCount_0f7a4_35 ?_
  refine hf_bipush (pc := 36) dJ6_bitCount_0f7a4_36 (by decide) ?_
  refine hf_iushr (pc := 38) dJ6_bitCount_0f7a4_38 ?_
  refine hf_iadd (pc := 39) dJ6_bitCount_0f7a4_39 ?_
  refine hf_ist_nB (pc := 40) (fun y => [(0, 0, y)]) rfl (by decide) (fun _ => rfl) dJ6_bitCount_0f7a4_40 (fun x0_40 => ?_)
  refine hf_ild_n (pc := 41) 0 rfl rfl dJ6_bitCount_0f7a4_41 ?_
  refine hf_ild_n (pc := 42) 0 rfl rfl dJ6_bitCount_0f7a4_42 ?_
  refine hf_bipush (pc := 43) dJ6_bitCount_0f7a4_43 (by decide) ?_
  refine hf_iushr (pc := 45) dJ6_bitCount_0f7a4_45 ?_
  refine hf_iadd (pc := 46) dJ6_bitCount_0f7a4_46 ?_
  refine hf_ist_nB (pc := 47) (fun y => [(0, 0, y)]) rfl (by decide) (fun _ => rfl) dJ6_bitCount_0f7a4_47 (fun x0_47 => ?_)
  refine hf_ild_n (pc := 48) 0 rfl rfl dJ6_bitCount_0f7a4_48 ?_
  refine hf_bipush (pc := 49) dJ6_bitCount_0f7a4_49 (by decide) ?_
  refine hf_iand (pc := 51) dJ6_bitCount_0f7a4_51 ?_
  exact hf_Jret (pc := 52) dJ6_bitCount_0f7a4_52 (fun _ => rfl)
/-! Stair.allWeights()I -/
def M_X8_allWeights : hf_D := (yX8_allWeights, cX8_allWeights, 3, some .int, 0, 0)
def B_X8_allWeights_4 (x0 : Int) (rec_4 : Int × Int → hf_M Int) (x1 x2 : Int) : hf_M Int :=
  hf_bd (hf_gf 8 0 x0) (fun v6 => hf_cb x2 v6 (v6 < x2) (hf_ret x1) (hf_bd (hf_gf 8 6 x0) (fun v14 => hf_bd (hf_al 20 v14 x2) (fun v18 => hf_bd (hf_ret (x1 + v18)) (fun x1_20 => hf_bd (hf_ret (x2 + 1)) (fun x2_21 => rec_4 (x1_20, x2_21)))))))
def f_X8_allWeights_4 (x0 x1 x2 : Int) : hf_M Int := hf_fx (fun rec s => B_X8_allWeights_4 x0 rec s.1 s.2) hf_N (x1, x2)
def f_X8_allWeights (x0 : Int) : hf_M Int :=
  f_X8_allWeights_4 x0 0 0
theorem cal_X8_allWeights : hf_cv M_X8_allWeights 8 0 := ⟨⟨ii_X8, kc_X8_allWeights, by decide, by decide, by decide +kernel⟩, ki_X8_allWeights, kv_X8_allWeights, _, rfl, rfl⟩
set_option maxRecDepth 20000 in
theorem jb_X8_allWeights_4 (x0 : Int) (rec_4 : Int × Int → hf_M Int) (hrec_4 : ∀ s : Int × Int, hf_J M_X8_allWeights 4 [(0, 2, x0), (1, 0, s.1), (2, 0, s.2)] [] (rec_4 s)) (x1 x2 : Int) : hf_J M_X8_allWeights 4 [(0, 2, x0), (1, 0, x1), (2, 0, x2)] [] (B_X8_allWeights_4 x0 rec_4 x1 x2) := by
  refine hf_ild_n (pc := 4) 2 rfl rfl dX8_allWeights_4 ?_
  refine hf_ald_n (pc := 5) 0 rfl rfl dX8_allWeights_5 ?_
  refine hf_getf (pc := 6) fl_X8_9 dX8_allWeights_6 (fun v6 => ?_)
  refine hf_icmp_gt (pc := 9) 27 dX8_allWeights_9 rfl ?_ ?_
  · refine hf_ild_n (pc := 27) 1 rfl rfl dX8_allWeights_27 ?_
    exact hf_Jret (pc := 28) dX8_allWeights_28 (fun _ => rfl)
  · refine hf_ild_n (pc := 12) 1 rfl rfl dX8_allWeights_12 ?_
    refine hf_ald_n (pc := 13) 0 rfl rfl dX8_allWeights_13 ?_
    refine hf_getf (pc := 14) fl_X8_31 dX8_allWeights_14 (fun v14 => ?_)
    refine hf_ild_n (pc := 17) 2 rfl rfl dX8_allWeights_17 ?_
    refine hf_iald (pc := 18) dX8_allWeights_18 (fun v18 => ?_)
    refine hf_iadd (pc := 19) dX8_allWeights_19 ?_
    refine hf_ist_nB (pc := 20) (fun y => [(1, 0, y), (0, 2, x0), (2, 0, x2)]) rfl (by decide) (fun _ => rfl) dX8_allWeights_20 (fun x1_20 => ?_)
    refine hf_iincB (pc := 21) (fun y => [(2, 0, y), (1, 0, x1_20), (0, 2, x0)]) (q := 2) rfl (by decide) (fun _ => rfl) dX8_allWeights_21 (fun x2_21 => ?_)
    refine hf_goto (pc := 24) 4 dX8_allWeights_24 rfl ?_
    exact hf_sub [2, 1, 0] rfl (hrec_4 (x1_20, x2_21))
set_option maxRecDepth 20000 in
theorem j_X8_allWeights_4 (x0 x1 x2 : Int) : hf_J M_X8_allWeights 4 [(0, 2, x0), (1, 0, x1), (2, 0, x2)] [] (f_X8_allWeights_4 x0 x1 x2) :=
  hf_Jfx (L := fun s => [(0, 2, x0), (1, 0, s.1), (2, 0, s.2)]) (fun rec hrec s => jb_X8_allWeights_4 x0 rec hrec s.1 s.2) hf_N (x1, x2)
set_option maxRecDepth 20000 in
theorem c_X8_allWeights (x0 : Int) : hf_Met M_X8_allWeights [2] [x0] (f_X8_allWeights x0) := by
  refine hf_met rfl (by decide) (by decide) (by decide) ?_
  show hf_J M_X8_allWeights 0 [(0, 2, x0)] [] _
  refine hf_iconst (pc := 0) dX8_allWeights_0 ?_
  refine hf_ist_n (pc := 1) (lv' := [(1, 0, 0), (0, 2, x0)]) rfl (by decide) rfl dX8_allWeights_1 ?_
  refine hf_iconst (pc := 2) dX8_allWeights_2 ?_
  refine hf_ist_n (pc := 3) (lv' := [(2, 0, 0), (1, 0, 0), (0, 2, x0)]) rfl (by decide) rfl dX8_allWeights_3 ?_
  exact hf_sub [2, 1, 0] rfl (j_X8_allWeights_4 x0 0 0)
/-! Stair.strengthBehind(I)I -/
def M_X8_strengthBehind : hf_D := (yX8_strengthBehind, cX8_strengthBehind, 4, some .int, 0, 0)
def B_X8_strengthBehind_4 (x0 x1 : Int) (rec_4 : Int × Int → hf_M Int) (x2 x3 : Int) : hf_M Int :=
  hf_bd (hf_gf 8 0 x0) (fun v6 => hf_cb x3 v6 (v6 < x3) (hf_bd (hf_gf 8 0 x0) (fun v35 => hf_ret v35)) (hf_bd (hf_gf 8 6 x0) (fun v14 => hf_bd (hf_al 20 v14 x3) (fun v18 => hf_bd (hf_ret (x2 + v18)) (fun x2_20 => hf_cb x2_20 x1 (x2_20 ≤ x1) (hf_bd (hf_ret (x3 + 1)) (fun x3_28 => rec_4 (x2_20, x3_28))) (hf_ret x3))))))
def f_X8_strengthBehind_4 (x0 x1 x2 x3 : Int) : hf_M Int := hf_fx (fun rec s => B_X8_strengthBehind_4 x0 x1 rec s.1 s.2) hf_N (x2, x3)
def f_X8_strengthBehind (x0 x1 : Int) : hf_M Int :=
  f_X8_strengthBehind_4 x0 x1 0 0
theorem cal_X8_strengthBehind : hf_cv M_X8_strengthBehind 8 1 := ⟨⟨ii_X8, kc_X8_strengthBehind, by decide, by decide, by decide +kernel⟩, ki_X8_strengthBehind, kv_X8_strengthBehind, _, rfl, rfl⟩
set_option maxRecDepth 20000 in
theorem jb_X8_strengthBehind_4 (x0 x1 : Int) (rec_4 : Int × Int → hf_M Int) (hrec_4 : ∀ s : Int × Int, hf_J M_X8_strengthBehind 4 [(0, 2, x0), (1, 0, x1), (2, 0, s.1), (3, 0, s.2)] [] (rec_4 s)) (x2 x3 : Int) : hf_J M_X8_strengthBehind 4 [(0, 2, x0), (1, 0, x1), (2, 0, x2), (3, 0, x3)] [] (B_X8_strengthBehind_4 x0 x1 rec_4 x2 x3) := by
  refine hf_ild_n (pc := 4) 3 rfl rfl dX8_strengthBehind_4 ?_
  refine hf_ald_n (pc := 5) 0 rfl rfl dX8_strengthBehind_5 ?_
  refine hf_getf (pc := 6) fl_X8_9 dX8_strengthBehind_6 (fun v6 => ?_)
  refine hf_icmp_gt (pc := 9) 34 dX8_strengthBehind_9 rfl ?_ ?_
  · refine hf_ald_n (pc := 34) 0 rfl rfl dX8_strengthBehind_34 ?_
    refine hf_getf (pc := 35) fl_X8_9 dX8_strengthBehind_35 (fun v35 => ?_)
    exact hf_Jret (pc := 38) dX8_strengthBehind_38 (fun _ => rfl)
  · refine hf_ild_n (pc := 12) 2 rfl rfl dX8_strengthBehind_12 ?_
    refine hf_ald_n (pc := 13) 0 rfl rfl dX8_strengthBehind_13 ?_
    refine hf_getf (pc := 14) fl_X8_31 dX8_strengthBehind_14 (fun v14 => ?_)
    refine hf_ild_n (pc := 17) 3 rfl rfl dX8_strengthBehind_17 ?_
    refine hf_iald (pc := 18) dX8_strengthBehind_18 (fun v18 => ?_)
    refine hf_iadd (pc := 19) dX8_strengthBehind_19 ?_
    refine hf_ist_nB (pc := 20) (fun y => [(2, 0, y), (0, 2, x0), (1, 0, x1), (3, 0, x3)]) rfl (by decide) (fun _ => rfl) dX8_strengthBehind_20 (fun x2_20 => ?_)
    refine hf_ild_n (pc := 21) 0 rfl rfl dX8_strengthBehind_21 ?_
    refine hf_ild_n (pc := 22) 2 rfl rfl dX8_strengthBehind_22 ?_
    refine hf_icmp_le (pc := 23) 28 dX8_strengthBehind_23 rfl ?_ ?_
    · refine hf_iincB (pc := 28) (fun y => [(3, 0, y), (2, 0, x2_20), (0, 2, x0), (1, 0, x1)]) (q := 3) rfl (by decide) (fun _ => rfl) dX8_strengthBehind_28 (fun x3_28 => ?_)
      refine hf_goto (pc := 31) 4 dX8_strengthBehind_31 rfl ?_
      exact hf_sub [2, 3, 1, 0] rfl (hrec_4 (x2_20, x3_28))
    · refine hf_ild_n (pc := 26) 3 rfl rfl dX8_strengthBehind_26 ?_
      exact hf_Jret (pc := 27) dX8_strengthBehind_27 (fun _ => rfl)
set_option maxRecDepth 20000 in
theorem j_X8_strengthBehind_4 (x0 x1 x2 x3 : Int) : hf_J M_X8_strengthBehind 4 [(0, 2, x0), (1, 0, x1), (2, 0, x2), (3, 0, x3)] [] (f_X8_strengthBehind_4 x0 x1 x2 x3) :=
  hf_Jfx (L := fun s => [(0, 2, x0), (1, 0, x1), (2, 0, s.1), (3, 0, s.2)]) (fun rec hrec s => jb_X8_strengthBehind_4 x0 x1 rec hrec s.1 s.2) hf_N (x2, x3)
set_option maxRecDepth 20000 in
theorem c_X8_strengthBehind (x0 x1 : Int) : hf_Met M_X8_strengthBehind [2, 0] [x0, x1] (f_X8_strengthBehind x0 x1) := by
  refine hf_met rfl (by decide) (by decide) (by decide) ?_
  show hf_J M_X8_strengthBehind 0 [(0, 2, x0), (1, 0, x1)] [] _
  refine hf_iconst (pc := 0) dX8_strengthBehind_0 ?_
  refine hf_ist_n (pc := 1) (lv' := [(2, 0, 0), (0, 2, x0), (1, 0, x1)]) rfl (by decide) rfl dX8_strengthBehind_1 ?_
  refine hf_iconst (pc := 2) dX8_strengthBehind_2 ?_
  refine hf_ist_n (pc := 3) (lv' := [(3, 0, 0), (2, 0, 0), (0, 2, x0), (1, 0, x1)]) rfl (by decide) rfl dX8_strengthBehind_3 ?_
  exact hf_sub [2, 3, 1, 0] rfl (j_X8_strengthBehind_4 x0 x1 0 0)
