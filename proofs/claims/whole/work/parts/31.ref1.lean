/-! HighFallModel.feed(IIIII)I -/
def M_X12_feed : hf_D := (yX12_feed, cX12_feed, 8, some .int, 0, 0)
def f_X12_feed_76 (rec_23 : Int → hf_M Int) (x0 x1 x2 x3 x4 x5 x6 s0 : Int) : hf_M Int :=
  hf_bd (hf_gf 12 0 x0) (fun v79 => hf_bd (hf_gf 12 1 x0) (fun v83 => hf_bd (hf_rm x6 4) (fun v98 => hf_bd (hf_as 20 v79 (v83 + x6) (hf_and (hf_shr s0 (24 - (8 * v98))) 255)) (fun _ => hf_bd (hf_ret (x6 + 1)) (fun x6_107 => rec_23 x6_107)))))
def B_X12_feed_23 (x0 x1 x2 x3 x4 x5 : Int) (rec_23 : Int → hf_M Int) (x6 : Int) : hf_M Int :=
  hf_cb x6 20 (20 ≤ x6) (hf_bd (hf_gf 12 1 x0) (fun v115 => hf_bd (hf_pf 12 1 x0 (v115 + 20)) (fun _ => hf_bd (hf_gf 12 1 x0) (fun v125 => hf_ret v125)))) (hf_cb x6 4 (4 ≤ x6) (hf_cb x6 8 (8 ≤ x6) (hf_cb x6 12 (12 ≤ x6) (hf_cb x6 16 (16 ≤ x6) (f_X12_feed_76 rec_23 x0 x1 x2 x3 x4 x5 x6 x5) (f_X12_feed_76 rec_23 x0 x1 x2 x3 x4 x5 x6 x4)) (f_X12_feed_76 rec_23 x0 x1 x2 x3 x4 x5 x6 x3)) (f_X12_feed_76 rec_23 x0 x1 x2 x3 x4 x5 x6 x2)) (f_X12_feed_76 rec_23 x0 x1 x2 x3 x4 x5 x6 x1))
def f_X12_feed_23 (x0 x1 x2 x3 x4 x5 x6 : Int) : hf_M Int := hf_fx (fun rec s => B_X12_feed_23 x0 x1 x2 x3 x4 x5 rec s) hf_N x6
def f_X12_feed (x0 x1 x2 x3 x4 x5 : Int) : hf_M Int :=
  hf_bd (hf_pf 12 2 x0 0) (fun _ => hf_bd (hf_gf 12 1 x0) (fun v6 => hf_cb (v6 + 20) 400 ((v6 + 20) ≤ 400) (f_X12_feed_23 x0 x1 x2 x3 x4 x5 0) (hf_ret (-1))))
theorem cal_X12_feed : hf_cv M_X12_feed 12 5 := ⟨⟨ii_X12, kc_X12_feed, by decide, by decide, by decide +kernel⟩, ki_X12_feed, kv_X12_feed, _, rfl, rfl⟩
set_option maxRecDepth 20000 in
theorem j_X12_feed_76 (x0 x1 x2 x3 x4 x5 x6 s0 : Int) (rec_23 : Int → hf_M Int) (hrec_23 : ∀ s : Int, hf_J M_X12_feed 23 [(0, 2, x0), (1, 0, x1), (2, 0, x2), (3, 0, x3), (4, 0, x4), (5, 0, x5), (6, 0, s)] [] (rec_23 s)) : hf_J M_X12_feed 76 [(0, 2, x0), (1, 0, x1), (2, 0, x2), (3, 0, x3), (4, 0, x4), (5, 0, x5), (6, 0, x6)] [(0, s0)] (f_X12_feed_76 rec_23 x0 x1 x2 x3 x4 x5 x6 s0) := by
  refine hf_ist (pc := 76) (lv' := [(7, 0, s0), (0, 2, x0), (1, 0, x1), (2, 0, x2), (3, 0, x3), (4, 0, x4), (5, 0, x5), (6, 0, x6)]) (by decide) rfl dX12_feed_76 ?_
  refine hf_ald_n (pc := 78) 1 rfl rfl dX12_feed_78 ?_
  refine hf_getf (pc := 79) fl_X12_7 dX12_feed_79 (fun v79 => ?_)
  refine hf_ald_n (pc := 82) 1 rfl rfl dX12_feed_82 ?_
  refine hf_getf (pc := 83) fl_X12_130 dX12_feed_83 (fun v83 => ?_)
  refine hf_ild (pc := 86) 7 rfl dX12_feed_86 ?_
  refine hf_iadd (pc := 88) dX12_feed_88 ?_
  refine hf_ild (pc := 89) 0 rfl dX12_feed_89 ?_
  refine hf_bipush (pc := 91) dX12_feed_91 (by decide) ?_
  refine hf_bipush (pc := 93) dX12_feed_93 (by decide) ?_
  refine hf_ild (pc := 95) 7 rfl dX12_feed_95 ?_
  refine hf_iconst (pc := 97) dX12_feed_97 ?_
  refine hf_irem (pc := 98) dX12_feed_98 (fun v98 => ?_)
  refine hf_imul (pc := 99) dX12_feed_99 ?_
  refine hf_isub (pc := 100) dX12_feed_100 ?_
  refine hf_ishr (pc := 101) dX12_feed_101 ?_
  refine hf_sipush (pc := 102) dX12_feed_102 (by decide) ?_
  refine hf_iand (pc := 105) dX12_feed_105 ?_
  refine hf_iast (pc := 106) dX12_feed_106 ?_
  refine hf_iincB (pc := 107) (fun y => [(6, 0, y), (7, 0, s0), (0, 2, x0), (1, 0, x1), (2, 0, x2), (3, 0, x3), (4, 0, x4), (5, 0, x5)]) (q := 7) rfl (by decide) (fun _ => rfl) dX12_feed_107 (fun x6_107 => ?_)
  refine hf_goto (pc := 110) 23 dX12_feed_110 rfl ?_
  exact hf_sub [2, 3, 4, 5, 6, 7, 0] rfl (hrec_23 x6_107)
set_option maxRecDepth 20000 in
theorem jb_X12_feed_23 (x0 x1 x2 x3 x4 x5 : Int) (rec_23 : Int → hf_M Int) (hrec_23 : ∀ s : Int, hf_J M_X12_feed 23 [(0, 2, x0), (1, 0, x1), (2, 0, x2), (3, 0, x3), (4, 0, x4), (5, 0, x5), (6, 0, s)] [] (rec_23 s)) (x6 : Int) : hf_J M_X12_feed 23 [(0, 2, x0), (1, 0, x1), (2, 0, x2), (3, 0, x3), (4, 0, x4), (5, 0, x5), (6, 0, x6)] [] (B_X12_feed_23 x0 x1 x2 x3 x4 x5 rec_23 x6) := by
  refine hf_ild (pc := 23) 6 rfl dX12_feed_23 ?_
  refine hf_bipush (pc := 25) dX12_feed_25 (by decide) ?_
  refine hf_icmp_ge (pc := 27) 113 dX12_feed_27 rfl ?_ ?_
  · refine hf_ald_n (pc := 113) 0 rfl rfl dX12_feed_113 ?_
    refine hf_dup (pc := 114) (by decide) dX12_feed_114 ?_
    refine hf_getf (pc := 115) fl_X12_130 dX12_feed_115 (fun v115 => ?_)
    refine hf_bipush (pc := 118) dX12_feed_118 (by decide) ?_
    refine hf_iadd (pc := 120) dX12_feed_120 ?_
    refine hf_putf (pc := 121) fl_X12_130 trivial dX12_feed_121 ?_
    refine hf_ald_n (pc := 124) 0 rfl rfl dX12_feed_124 ?_
    refine hf_getf (pc := 125) fl_X12_130 dX12_feed_125 (fun v125 => ?_)
    exact hf_Jret (pc := 128) dX12_feed_128 (fun _ => rfl)
  · refine hf_ild (pc := 30) 6 rfl dX12_feed_30 ?_
    refine hf_iconst (pc := 32) dX12_feed_32 ?_
    refine hf_icmp_ge (pc := 33) 40 dX12_feed_33 rfl ?_ ?_
    · refine hf_ild (pc := 40) 6 rfl dX12_feed_40 ?_
      refine hf_bipush (pc := 42) dX12_feed_42 (by decide) ?_
      refine hf_icmp_ge (pc := 44) 51 dX12_feed_44 rfl ?_ ?_
      · refine hf_ild (pc := 51) 6 rfl dX12_feed_51 ?_
        refine hf_bipush (pc := 53) dX12_feed_53 (by decide) ?_
        refine hf_icmp_ge (pc := 55) 62 dX12_feed_55 rfl ?_ ?_
        · refine hf_ild (pc := 62) 6 rfl dX12_feed_62 ?_
          refine hf_bipush (pc := 64) dX12_feed_64 (by decide) ?_
          refine hf_icmp_ge (pc := 66) 74 dX12_feed_66 rfl ?_ ?_
          · refine hf_ild (pc := 74) 5 rfl dX12_feed_74 ?_
            exact hf_sub [0, 1, 2, 3, 4, 5, 6] rfl (j_X12_feed_76 x0 x1 x2 x3 x4 x5 x6 x5 rec_23 hrec_23)
          · refine hf_ild (pc := 69) 4 rfl dX12_feed_69 ?_
            refine hf_goto (pc := 71) 76 dX12_feed_71 rfl ?_
            exact hf_sub [0, 1, 2, 3, 4, 5, 6] rfl (j_X12_feed_76 x0 x1 x2 x3 x4 x5 x6 x4 rec_23 hrec_23)
        · refine hf_ild_n (pc := 58) 3 rfl rfl dX12_feed_58 ?_
          refine hf_goto (pc := 59) 76 dX12_feed_59 rfl ?_
          exact hf_sub [0, 1, 2, 3, 4, 5, 6] rfl (j_X12_feed_76 x0 x1 x2 x3 x4 x5 x6 x3 rec_23 hrec_23)
      · refine hf_ild_n (pc := 47) 2 rfl rfl dX12_feed_47 ?_
        refine hf_goto (pc := 48) 76 dX12_feed_48 rfl ?_
        exact hf_sub [0, 1, 2, 3, 4, 5, 6] rfl (j_X12_feed_76 x0 x1 x2 x3 x4 x5 x6 x2 rec_23 hrec_23)
    · refine hf_ild_n (pc := 36) 1 rfl rfl dX12_feed_36 ?_
      refine hf_goto (pc := 37) 76 dX12_feed_37 rfl ?_
      exact hf_sub [0, 1, 2, 3, 4, 5, 6] rfl (j_X12_feed_76 x0 x1 x2 x3 x4 x5 x6 x1 rec_23 hrec_23)
set_option maxRecDepth 20000 in
theorem j_X12_feed_23 (x0 x1 x2 x3 x4 x5 x6 : Int) : hf_J M_X12_feed 23 [(0, 2, x0), (1, 0, x1), (2, 0, x2), (3, 0, x3), (4, 0, x4), (5, 0, x5), (6, 0, x6)] [] (f_X12_feed_23 x0 x1 x2 x3 x4 x5 x6) :=
  hf_Jfx (L := fun s => [(0, 2, x0), (1, 0, x1), (2, 0, x2), (3, 0, x3), (4, 0, x4), (5, 0, x5), (6, 0, s)]) (fun rec hrec s => jb_X12_feed_23 x0 x1 x2 x3 x4 x5 rec hrec s) hf_N x6
set_option maxRecDepth 20000 in
theorem c_X12_feed (x0 x1 x2 x3 x4 x5 : Int) : hf_Met M_X12_feed [2, 0, 0, 0, 0, 0] [x0, x1, x2, x3, x4, x5] (f_X12_feed x0 x1 x2 x3 x4 x5) := by
  refine hf_met rfl (by decide) (by decide) (by decide) ?_
  show hf_J M_X12_feed 0 [(0, 2, x0), (1, 0, x1), (2, 0, x2), (3, 0, x3), (4, 0, x4), (5, 0, x5)] [] _
  refine hf_ald_n (pc := 0) 0 rfl rfl dX12_feed_0 ?_
  refine hf_iconst (pc := 1) dX12_feed_1 ?_
  refine hf_putf (pc := 2) fl_X12_127 trivial dX12_feed_2 ?_
  refine hf_ald_n (pc := 5) 0 rfl rfl dX12_feed_5 ?_
  refine hf_getf (pc := 6) fl_X12_130 dX12_feed_6 (fun v6 => ?_)
  refine hf_bipush (pc := 9) dX12_feed_9 (by decide) ?_
  refine hf_iadd (pc := 11) dX12_feed_11 ?_
  refine hf_sipush (pc := 12) dX12_feed_12 (by decide) ?_
  refine hf_icmp_le (pc := 15) 20 dX12_feed_15 rfl ?_ ?_
  · refine hf_iconst (pc := 20) dX12_feed_20 ?_
    refine hf_ist (pc := 21) (lv' := [(6, 0, 0), (0, 2, x0), (1, 0, x1), (2, 0, x2), (3, 0, x3), (4, 0, x4), (5, 0, x5)]) (by decide) rfl dX12_feed_21 ?_
    exact hf_sub [1, 2, 3, 4, 5, 6, 0] rfl (j_X12_feed_23 x0 x1 x2 x3 x4 x5 0)
  · refine hf_iconst (pc := 18) dX12_feed_18 ?_
    exact hf_Jret (pc := 19) dX12_feed_19 (fun _ => rfl)
/-! HighFallModel.isIn(III)Z -/
def M_X12_isIn : hf_D := (yX12_isIn, cX12_isIn, 3, some .boolean, 0, 0)
def f_X12_isIn (x0 x1 x2 : Int) : hf_M Int :=
  hf_cb x0 x1 (x0 < x1) (hf_ret 0) (hf_cb x0 x2 (x2 < x0) (hf_ret 0) (hf_ret 1))
theorem cal_X12_isIn : hf_csx M_X12_isIn 3 := ⟨⟨ii_X12, kc_X12_isIn, by decide, by decide, by decide +kernel⟩, ks_X12_isIn⟩
set_option maxRecDepth 20000 in
theorem c_X12_isIn (x0 x1 x2 : Int) : hf_Met M_X12_isIn [0, 0, 0] [x0, x1, x2] (f_X12_isIn x0 x1 x2) := by
  refine hf_met rfl (by decide) (by decide) (by decide) ?_
  show hf_J M_X12_isIn 0 [(0, 0, x0), (1, 0, x1), (2, 0, x2)] [] _
  refine hf_ild_n (pc := 0) 0 rfl rfl dX12_isIn_0 ?_
  refine hf_ild_n (pc := 1) 1 rfl rfl dX12_isIn_1 ?_
  refine hf_icmp_lt (pc := 2) 14 dX12_isIn_2 rfl ?_ ?_
  · refine hf_iconst (pc := 14) dX12_isIn_14 ?_
    exact hf_Jret (pc := 15) (r := 0) ⟨dX12_isIn_15, Or.inl rfl⟩ (fun _ => rfl)
  · refine hf_ild_n (pc := 5) 0 rfl rfl dX12_isIn_5 ?_
    refine hf_ild_n (pc := 6) 2 rfl rfl dX12_isIn_6 ?_
    refine hf_icmp_gt (pc := 7) 14 dX12_isIn_7 rfl ?_ ?_
    · refine hf_iconst (pc := 14) dX12_isIn_14 ?_
      exact hf_Jret (pc := 15) (r := 0) ⟨dX12_isIn_15, Or.inl rfl⟩ (fun _ => rfl)
    · refine hf_iconst (pc := 10) dX12_isIn_10 ?_
      refine hf_goto (pc := 11) 15 dX12_isIn_11 rfl ?_
      exact hf_Jret (pc := 15) (r := 1) ⟨dX12_isIn_15, Or.inr rfl⟩ (fun _ => rfl)
/-! HighFallModel.stair(I)Z -/
def M_X12_stair : hf_D := (yX12_stair, cX12_stair, 3, some .boolean, 1, 22)
def B_X12_stair_24 (x0 : Int) (rec_24 : Int → hf_M Int) (x2 : Int) : hf_M Int :=
  hf_cb x2 41 (41 ≤ x2) (hf_bd (hf_pf 12 57 x0 0) (fun _ => hf_bd (hf_pf 12 63 x0 0) (fun _ => hf_ret 1))) (hf_bd (hf_gf 12 7 x0) (fun v31 => hf_bd (hf_as 20 v31 x2 1) (fun _ => hf_bd (hf_ret (x2 + 1)) (fun x2_37 => rec_24 x2_37))))
def f_X12_stair_24 (x0 x2 : Int) : hf_M Int := hf_fx (fun rec s => B_X12_stair_24 x0 rec s) hf_N x2
def f_X12_stair (x0 x1 : Int) : hf_M Int :=
  hf_bd (hf_pf 12 2 x0 0) (fun _ => hf_bd (f_X12_isIn x1 1 40) (fun v9 => hf_cz v9 (¬ v9 = 0) (hf_bd (hf_pf 12 3 x0 x1) (fun _ => f_X12_stair_24 x0 0)) (hf_ret 0)))
theorem cal_X12_stair : hf_cv M_X12_stair 12 1 := ⟨⟨ii_X12, kc_X12_stair, by decide, by decide, by decide +kernel⟩, ki_X12_stair, kv_X12_stair, _, rfl, rfl⟩
set_option maxRecDepth 20000 in
theorem jb_X12_stair_24 (x0 : Int) (rec_24 : Int → hf_M Int) (hrec_24 : ∀ s : Int, hf_J M_X12_stair 24 [(0, 2, x0), (2, 0, s)] [] (rec_24 s)) (x2 : Int) : hf_J M_X12_stair 24 [(0, 2, x0), (2, 0, x2)] [] (B_X12_stair_24 x0 rec_24 x2) := by
  refine hf_ild_n (pc := 24) 1 rfl rfl dX12_stair_24 ?_
  refine hf_bipush (pc := 25) dX12_stair_25 (by decide) ?_
  refine hf_icmp_ge (pc := 27) 43 dX12_stair_27 rfl ?_ ?_
  · refine hf_ald_n (pc := 43) 0 rfl rfl dX12_stair_43 ?_
    refine hf_iconst (pc := 44) dX12_stair_44 ?_
    refine hf_putf (pc := 45) fl_X12_137 trivial dX12_stair_45 ?_
    refine hf_ald_n (pc := 48) 0 rfl rfl dX12_stair_48 ?_
    refine hf_iconst (pc := 49) dX12_stair_49 ?_
    refine hf_putf (pc := 50) fl_X12_140 (Or.inl rfl) dX12_stair_50 ?_
    refine hf_iconst (pc := 53) dX12_stair_53 ?_
    exact hf_Jret (pc := 54) (r := 1) ⟨dX12_stair_54, Or.inr rfl⟩ (fun _ => rfl)
  · refine hf_ald_n (pc := 30) 0 rfl rfl dX12_stair_30 ?_
    refine hf_getf (pc := 31) fl_X12_26 dX12_stair_31 (fun v31 => ?_)
    refine hf_ild_n (pc := 34) 1 rfl rfl dX12_stair_34 ?_
    refine hf_iconst (pc := 35) dX12_stair_35 ?_
    refine hf_iast (pc := 36) dX12_stair_36 ?_
    refine hf_iincB (pc := 37) (fun y => [(2, 0, y), (0, 2, x0)]) (q := 1) rfl (by decide) (fun _ => rfl) dX12_stair_37 (fun x2_37 => ?_)
    refine hf_goto (pc := 40) 24 dX12_stair_40 rfl ?_
    exact hf_sub [1, 0] rfl (hrec_24 x2_37)
set_option maxRecDepth 20000 in
theorem j_X12_stair_24 (x0 x2 : Int) : hf_J M_X12_stair 24 [(0, 2, x0), (2, 0, x2)] [] (f_X12_stair_24 x0 x2) :=
  hf_Jfx (L := fun s => [(0, 2, x0), (2, 0, s)]) (fun rec hrec s => jb_X12_stair_24 x0 rec hrec s) hf_N x2
set_option maxRecDepth 20000 in
theorem c_X12_stair (x0 x1 : Int) : hf_Met M_X12_stair [2, 0] [x0, x1] (f_X12_stair x0 x1) := by
  refine hf_met rfl (by decide) (by decide) (by decide) ?_
  show hf_J M_X12_stair 0 [(0, 2, x0), (1, 0, x1)] [] _
  refine hf_ald_n (pc := 0) 0 rfl rfl dX12_stair_0 ?_
  refine hf_iconst (pc := 1) dX12_stair_1 ?_
  refine hf_putf (pc := 2) fl_X12_127 trivial dX12_stair_2 ?_
  refine hf_ild_n (pc := 5) 1 rfl rfl dX12_stair_5 ?_
  refine hf_iconst (pc := 6) dX12_stair_6 ?_
  refine hf_bipush (pc := 7) dX12_stair_7 (by decide) ?_
  refine hf_cS (pc := 9) (N := M_X12_isIn) (ts := [0, 0, 0]) (vs := [x1, 1, 40]) (st := []) (fun r => [(0, r)]) (c_X12_isIn x1 1 40) cal_X12_isIn ml_X12_133 ⟨hf_le rfl, hf_le rfl⟩ (hf_le rfl) ⟨rfl, rfl⟩ rfl dX12_stair_9 (fun _ => rfl) (fun v9 => ?_)
  refine hf_if_ne (pc := 12) 17 dX12_stair_12 rfl ?_ ?_
  · refine hf_ald_n (pc := 17) 0 rfl rfl dX12_stair_17 ?_
    refine hf_ild_n (pc := 18) 1 rfl rfl dX12_stair_18 ?_
    refine hf_putf (pc := 19) fl_X12_13 trivial dX12_stair_19 ?_
    refine hf_iconst (pc := 22) dX12_stair_22 ?_
    refine hf_ist_n (pc := 23) (lv' := [(2, 0, 0), (0, 2, x0), (1, 0, x1)]) rfl (by decide) rfl dX12_stair_23 ?_
    exact hf_sub [1, 0] rfl (j_X12_stair_24 x0 0)
  · refine hf_iconst (pc := 15) dX12_stair_15 ?_
    exact hf_Jret (pc := 16) (r := 0) ⟨dX12_stair_16, Or.inl rfl⟩ (fun _ => rfl)
/-! HighFallModel.isKind(I)Z -/
def M_X12_isKind : hf_D := (yX12_isKind, cX12_isKind, 1, some .boolean, 0, 0)
def f_X12_isKind (x0 : Int) : hf_M Int :=
  hf_cz x0 (x0 < 0) (hf_ret 0) (hf_cb x0 3 (3 ≤ x0) (hf_ret 0) (hf_ret 1))
theorem cal_X12_isKind : hf_csx M_X12_isKind 1 := ⟨⟨ii_X12, kc_X12_isKind, by decide, by decide, by decide +kernel⟩, ks_X12_isKind⟩
set_option maxRecDepth 20000 in
theorem c_X12_isKind (x0 : Int) : hf_Met M_X12_isKind [0] [x0] (f_X12_isKind x0) := by
  refine hf_met rfl (by decide) (by decide) (by decide) ?_
  show hf_J M_X12_isKind 0 [(0, 0, x0)] [] _
  refine hf_ild_n (pc := 0) 0 rfl rfl dX12_isKind_0 ?_
  refine hf_if_lt (pc := 1) 13 dX12_isKind_1 rfl ?_ ?_
  · refine hf_iconst (pc := 13) dX12_isKind_13 ?_
    exact hf_Jret (pc := 14) (r := 0) ⟨dX12_isKind_14, Or.inl rfl⟩ (fun _ => rfl)
  · refine hf_ild_n (pc := 4) 0 rfl rfl dX12_isKind_4 ?_
    refine hf_iconst (pc := 5) dX12_isKind_5 ?_
    refine hf_icmp_ge (pc := 6) 13 dX12_isKind_6 rfl ?_ ?_
    · refine hf_iconst (pc := 13) dX12_isKind_13 ?_
      exact hf_Jret (pc := 14) (r := 0) ⟨dX12_isKind_14, Or.inl rfl⟩ (fun _ => rfl)
    · refine hf_iconst (pc := 9) dX12_isKind_9 ?_
      refine hf_goto (pc := 10) 14 dX12_isKind_10 rfl ?_
      exact hf_Jret (pc := 14) (r := 1) ⟨dX12_isKind_14, Or.inr rfl⟩ (fun _ => rfl)
/-! HighFallModel.kind(IIII)Z -/
def M_X12_kind : hf_D := (yX12_kind, cX12_kind, 5, some .boolean, 1, 22)
def f_X12_kind (x0 x1 x2 x3 x4 : Int) : hf_M Int :=
  hf_bd (hf_pf 12 2 x0 0) (fun _ => hf_bd (f_X12_isKind x1) (fun v6 => hf_cz v6 (v6 = 0) (hf_ret 0) (hf_bd (f_X12_isIn x2 (-9) 9) (fun v17 => hf_cz v17 (v17 = 0) (hf_ret 0) (hf_bd (f_X12_isIn x3 0 4) (fun v26 => hf_cz v26 (v26 = 0) (hf_ret 0) (hf_bd (f_X12_isIn x4 0 99) (fun v37 => hf_cz v37 (¬ v37 = 0) (hf_bd (hf_gf 12 4 x0) (fun v46 => hf_bd (hf_as 20 v46 x1 x2) (fun _ => hf_bd (hf_gf 12 5 x0) (fun v53 => hf_bd (hf_as 20 v53 x1 x3) (fun _ => hf_bd (hf_gf 12 6 x0) (fun v60 => hf_bd (hf_as 20 v60 x1 x4) (fun _ => hf_bd (hf_pf 12 63 x0 0) (fun _ => hf_ret 1)))))))) (hf_ret 0)))))))))
theorem cal_X12_kind : hf_cv M_X12_kind 12 4 := ⟨⟨ii_X12, kc_X12_kind, by decide, by decide, by decide +kernel⟩, ki_X12_kind, kv_X12_kind, _, rfl, rfl⟩
set_option maxRecDepth 20000 in
theorem c_X12_kind (x0 x1 x2 x3 x4 : Int) : hf_Met M_X12_kind [2, 0, 0, 0, 0] [x0, x1, x2, x3, x4] (f_X12_kind x0 x1 x2 x3 x4) := by
  refine hf_met rfl (by decide) (by decide) (by decide) ?_
  show hf_J M_X12_kind 0 [(0, 2, x0), (1, 0, x1), (2, 0, x2), (3, 0, x3), (4, 0, x4)] [] _
  refine hf_ald_n (pc := 0) 0 rfl rfl dX12_kind_0 ?_
  refine hf_iconst (pc := 1) dX12_kind_1 ?_
  refine hf_putf (pc := 2) fl_X12_127 trivial dX12_kind_2 ?_
  refine hf_ild_n (pc := 5) 1 rfl rfl dX12_kind_5 ?_
  refine hf_cS (pc := 6) (N := M_X12_isKind) (ts := [0]) (vs := [x1]) (st := []) (fun r => [(0, r)]) (c_X12_isKind x1) cal_X12_isKind ml_X12_144 ⟨hf_le rfl, hf_le rfl⟩ (hf_le rfl) ⟨rfl, rfl⟩ rfl dX12_kind_6 (fun _ => rfl) (fun v6 => ?_)
  refine hf_if_eq (pc := 9) 43 dX12_kind_9 rfl ?_ ?_
  · refine hf_iconst (pc := 43) dX12_kind_43 ?_
    exact hf_Jret (pc := 44) (r := 0) ⟨dX12_kind_44, Or.inl rfl⟩ (fun _ => rfl)
  · refine hf_ild_n (pc := 12) 2 rfl rfl dX12_kind_12 ?_
    refine hf_bipush (pc := 13) dX12_kind_13 (by decide) ?_
    refine hf_bipush (pc := 15) dX12_kind_15 (by decide) ?_
    refine hf_cS (pc := 17) (N := M_X12_isIn) (ts := [0, 0, 0]) (vs := [x2, (-9), 9]) (st := []) (fun r => [(0, r)]) (c_X12_isIn x2 (-9) 9) cal_X12_isIn ml_X12_133 ⟨hf_le rfl, hf_le rfl⟩ (hf_le rfl) ⟨rfl, rfl⟩ rfl dX12_kind_17 (fun _ => rfl) (fun v17 => ?_)
    refine hf_if_eq (pc := 20) 43 dX12_kind_20 rfl ?_ ?_
    · refine hf_iconst (pc := 43) dX12_kind_43 ?_
      exact hf_Jret (pc := 44) (r := 0) ⟨dX12_kind_44, Or.inl rfl⟩ (fun _ => rfl)
    · refine hf_ild_n (pc := 23) 3 rfl rfl dX12_kind_23 ?_
      refine hf_iconst (pc := 24) dX12_kind_24 ?_
      refine hf_iconst (pc := 25) dX12_kind_25 ?_
      refine hf_cS (pc := 26) (N := M_X12_isIn) (ts := [0, 0, 0]) (vs := [x3, 0, 4]) (st := []) (fun r => [(0, r)]) (c_X12_isIn x3 0 4) cal_X12_isIn ml_X12_133 ⟨hf_le rfl, hf_le rfl⟩ (hf_le rfl) ⟨rfl, rfl⟩ rfl dX12_kind_26 (fun _ => rfl) (fun v26 => ?_)
      refine hf_if_eq (pc := 29) 43 dX12_kind_29 rfl ?_ ?_
      · refine hf_iconst (pc := 43) dX12_kind_43 ?_
        exact hf_Jret (pc := 44) (r := 0) ⟨dX12_kind_44, Or.inl rfl⟩ (fun _ => rfl)
      · refine hf_ild (pc := 32) 4 rfl dX12_kind_32 ?_
        refine hf_iconst (pc := 34) dX12_kind_34 ?_
        refine hf_bipush (pc := 35) dX12_kind_35 (by decide) ?_
        refine hf_cS (pc := 37) (N := M_X12_isIn) (ts := [0, 0, 0]) (vs := [x4, 0, 99]) (st := []) (fun r => [(0, r)]) (c_X12_isIn x4 0 99) cal_X12_isIn ml_X12_133 ⟨hf_le rfl, hf_le rfl⟩ (hf_le rfl) ⟨rfl, rfl⟩ rfl dX12_kind_37 (fun _ => rfl) (fun v37 => ?_)
        refine hf_if_ne (pc := 40) 45 dX12_kind_40 rfl ?_ ?_
        · refine hf_ald_n (pc := 45) 0 rfl rfl dX12_kind_45 ?_
          refine hf_getf (pc := 46) fl_X12_17 dX12_kind_46 (fun v46 => ?_)
          refine hf_ild_n (pc := 49) 1 rfl rfl dX12_kind_49 ?_
          refine hf_ild_n (pc := 50) 2 rfl rfl dX12_kind_50 ?_
          refine hf_iast (pc := 51) dX12_kind_51 ?_
          refine hf_ald_n (pc := 52) 0 rfl rfl dX12_kind_52 ?_
          refine hf_getf (pc := 53) fl_X12_20 dX12_kind_53 (fun v53 => ?_)
          refine hf_ild_n (pc := 56) 1 rfl rfl dX12_kind_56 ?_
          refine hf_ild_n (pc := 57) 3 rfl rfl dX12_kind_57 ?_
          refine hf_iast (pc := 58) dX12_kind_58 ?_
          refine hf_ald_n (pc := 59) 0 rfl rfl dX12_kind_59 ?_
          refine hf_getf (pc := 60) fl_X12_23 dX12_kind_60 (fun v60 => ?_)
          refine hf_ild_n (pc := 63) 1 rfl rfl dX12_kind_63 ?_
          refine hf_ild (pc := 64) 4 rfl dX12_kind_64 ?_
          refine hf_iast (pc := 66) dX12_kind_66 ?_
          refine hf_ald_n (pc := 67) 0 rfl rfl dX12_kind_67 ?_
          refine hf_iconst (pc := 68) dX12_kind_68 ?_
          refine hf_putf (pc := 69) fl_X12_140 (Or.inl rfl) dX12_kind_69 ?_
          refine hf_iconst (pc := 72) dX12_kind_72 ?_
          exact hf_Jret (pc := 73) (r := 1) ⟨dX12_kind_73, Or.inr rfl⟩ (fun _ => rfl)
        · refine hf_iconst (pc := 43) dX12_kind_43 ?_
          exact hf_Jret (pc := 44) (r := 0) ⟨dX12_kind_44, Or.inl rfl⟩ (fun _ => rfl)
/-! HighFallModel.cost(II)Z -/
def M_X12_cost : hf_D := (yX12_cost, cX12_cost, 3, some .boolean, 1, 22)
def f_X12_cost (x0 x1 x2 : Int) : hf_M Int :=
  hf_bd (hf_pf 12 2 x0 0) (fun _ => hf_bd (f_X12_isIn x1 0 99) (fun v9 => hf_cz v9 (v9 = 0) (hf_ret 0) (hf_bd (f_X12_isIn x2 0 9) (fun v19 => hf_cz v19 (¬ v19 = 0) (hf_bd (hf_pf 12 8 x0 x1) (fun _ => hf_bd (hf_pf 12 9 x0 x2) (fun _ => hf_ret 1))) (hf_ret 0)))))
theorem cal_X12_cost : hf_cv M_X12_cost 12 2 := ⟨⟨ii_X12, kc_X12_cost, by decide, by decide, by decide +kernel⟩, ki_X12_cost, kv_X12_cost, _, rfl, rfl⟩
set_option maxRecDepth 20000 in
theorem c_X12_cost (x0 x1 x2 : Int) : hf_Met M_X12_cost [2, 0, 0] [x0, x1, x2] (f_X12_cost x0 x1 x2) := by
  refine hf_met rfl (by decide) (by decide) (by decide) ?_
  show hf_J M_X12_cost 0 [(0, 2, x0), (1, 0, x1), (2, 0, x2)] [] _
  refine hf_ald_n (pc := 0) 0 rfl rfl dX12_cost_0 ?_
  refine hf_iconst (pc := 1) dX12_cost_1 ?_
  refine hf_putf (pc := 2) fl_X12_127 trivial dX12_cost_2 ?_
  refine hf_ild_n (pc := 5) 1 rfl rfl dX12_cost_5 ?_
  refine hf_iconst (pc := 6) dX12_cost_6 ?_
  refine hf_bipush (pc := 7) dX12_cost_7 (by decide) ?_
  refine hf_cS (pc := 9) (N := M_X12_isIn) (ts := [0, 0, 0]) (vs := [x1, 0, 99]) (st := []) (fun r => [(0, r)]) (c_X12_isIn x1 0 99) cal_X12_isIn ml_X12_133 ⟨hf_le rfl, hf_le rfl⟩ (hf_le rfl) ⟨rfl, rfl⟩ rfl dX12_cost_9 (fun _ => rfl) (fun v9 => ?_)
  refine hf_if_eq (pc := 12) 25 dX12_cost_12 rfl ?_ ?_
  · refine hf_iconst (pc := 25) dX12_cost_25 ?_
    exact hf_Jret (pc := 26) (r := 0) ⟨dX12_cost_26, Or.inl rfl⟩ (fun _ => rfl)
  · refine hf_ild_n (pc := 15) 2 rfl rfl dX12_cost_15 ?_
    refine hf_iconst (pc := 16) dX12_cost_16 ?_
    refine hf_bipush (pc := 17) dX12_cost_17 (by decide) ?_
    refine hf_cS (pc := 19) (N := M_X12_isIn) (ts := [0, 0, 0]) (vs := [x2, 0, 9]) (st := []) (fun r => [(0, r)]) (c_X12_isIn x2 0 9) cal_X12_isIn ml_X12_133 ⟨hf_le rfl, hf_le rfl⟩ (hf_le rfl) ⟨rfl, rfl⟩ rfl dX12_cost_19 (fun _ => rfl) (fun v19 => ?_)
    refine hf_if_ne (pc := 22) 27 dX12_cost_22 rfl ?_ ?_
    · refine hf_ald_n (pc := 27) 0 rfl rfl dX12_cost_27 ?_
      refine hf_ild_n (pc := 28) 1 rfl rfl dX12_cost_28 ?_
      refine hf_putf (pc := 29) fl_X12_29 trivial dX12_cost_29 ?_
      refine hf_ald_n (pc := 32) 0 rfl rfl dX12_cost_32 ?_
      refine hf_ild_n (pc := 33) 2 rfl rfl dX12_cost_33 ?_
      refine hf_putf (pc := 34) fl_X12_148 trivial dX12_cost_34 ?_
      refine hf_iconst (pc := 37) dX12_cost_37 ?_
      exact hf_Jret (pc := 38) (r := 1) ⟨dX12_cost_38, Or.inr rfl⟩ (fun _ => rfl)
    · refine hf_iconst (pc := 25) dX12_cost_25 ?_
      exact hf_Jret (pc := 26) (r := 0) ⟨dX12_cost_26, Or.inl rfl⟩ (fun _ => rfl)
/-! HighFallModel.isStrength(I)Z -/
def M_X12_isStrength : hf_D := (yX12_isStrength, cX12_isStrength, 2, some .boolean, 0, 0)
def f_X12_isStrength (x0 x1 : Int) : hf_M Int :=
  hf_cz x1 (x1 < 0) (hf_ret 0) (hf_bd (hf_gf 12 3 x0) (fun v6 => hf_cb x1 v6 (v6 < x1) (hf_ret 0) (hf_ret 1)))
theorem cal_X12_isStrength : hf_cv M_X12_isStrength 12 1 := ⟨⟨ii_X12, kc_X12_isStrength, by decide, by decide, by decide +kernel⟩, ki_X12_isStrength, kv_X12_isStrength, _, rfl, rfl⟩
set_option maxRecDepth 20000 in
theorem c_X12_isStrength (x0 x1 : Int) : hf_Met M_X12_isStrength [2, 0] [x0, x1] (f_X12_isStrength x0 x1) := by
  refine hf_met rfl (by decide) (by decide) (by decide) ?_
  show hf_J M_X12_isStrength 0 [(0, 2, x0), (1, 0, x1)] [] _
  refine hf_ild_n (pc := 0) 1 rfl rfl dX12_isStrength_0 ?_
  refine hf_if_lt (pc := 1) 16 dX12_isStrength_1 rfl ?_ ?_
  · refine hf_iconst (pc := 16) dX12_isStrength_16 ?_
    exact hf_Jret (pc := 17) (r := 0) ⟨dX12_isStrength_17, Or.inl rfl⟩ (fun _ => rfl)
  · refine hf_ild_n (pc := 4) 1 rfl rfl dX12_isStrength_4 ?_
    refine hf_ald_n (pc := 5) 0 rfl rfl dX12_isStrength_5 ?_
    refine hf_getf (pc := 6) fl_X12_13 dX12_isStrength_6 (fun v6 => ?_)
    refine hf_icmp_gt (pc := 9) 16 dX12_isStrength_9 rfl ?_ ?_
    · refine hf_iconst (pc := 16) dX12_isStrength_16 ?_
      exact hf_Jret (pc := 17) (r := 0) ⟨dX12_isStrength_17, Or.inl rfl⟩ (fun _ => rfl)
    · refine hf_iconst (pc := 12) dX12_isStrength_12 ?_
      refine hf_goto (pc := 13) 17 dX12_isStrength_13 rfl ?_
      exact hf_Jret (pc := 17) (r := 1) ⟨dX12_isStrength_17, Or.inr rfl⟩ (fun _ => rfl)
/-! HighFallModel.weight(II)Z -/
def M_X12_weight : hf_D := (yX12_weight, cX12_weight, 3, some .boolean, 1, 22)
def f_X12_weight (x0 x1 x2 : Int) : hf_M Int :=
  hf_bd (hf_pf 12 2 x0 0) (fun _ => hf_bd (hf_ob 12 x0 (f_X12_isStrength x0 x1)) (fun v7 => hf_cz v7 (v7 = 0) (hf_ret 0) (hf_bd (f_X12_isIn x2 0 99) (fun v17 => hf_cz v17 (¬ v17 = 0) (hf_bd (hf_gf 12 7 x0) (fun v26 => hf_bd (hf_as 20 v26 x1 x2) (fun _ => hf_ret 1))) (hf_ret 0)))))
theorem cal_X12_weight : hf_cv M_X12_weight 12 2 := ⟨⟨ii_X12, kc_X12_weight, by decide, by decide, by decide +kernel⟩, ki_X12_weight, kv_X12_weight, _, rfl, rfl⟩
set_option maxRecDepth 20000 in
theorem c_X12_weight (x0 x1 x2 : Int) : hf_Met M_X12_weight [2, 0, 0] [x0, x1, x2] (f_X12_weight x0 x1 x2) := by
  refine hf_met rfl (by decide) (by decide) (by decide) ?_
  show hf_J M_X12_weight 0 [(0, 2, x0), (1, 0, x1), (2, 0, x2)] [] _
  refine hf_ald_n (pc := 0) 0 rfl rfl dX12_weight_0 ?_
  refine hf_iconst (pc := 1) dX12_weight_1 ?_
  refine hf_putf (pc := 2) fl_X12_127 trivial dX12_weight_2 ?_
  refine hf_ald_n (pc := 5) 0 rfl rfl dX12_weight_5 ?_
  refine hf_ild_n (pc := 6) 1 rfl rfl dX12_weight_6 ?_
  refine hf_cV (pc := 7) (N := M_X12_isStrength) (ts := [0]) (vs := [x1]) (st := []) (fun r => [(0, r)]) (c_X12_isStrength x0 x1) cal_X12_isStrength ml_X12_151 ⟨hf_le rfl, hf_le rfl⟩ (hf_le rfl) ⟨rfl, rfl⟩ rfl dX12_weight_7 (fun _ => rfl) (fun v7 => ?_)
  refine hf_if_eq (pc := 10) 23 dX12_weight_10 rfl ?_ ?_
  · refine hf_iconst (pc := 23) dX12_weight_23 ?_
    exact hf_Jret (pc := 24) (r := 0) ⟨dX12_weight_24, Or.inl rfl⟩ (fun _ => rfl)
  · refine hf_ild_n (pc := 13) 2 rfl rfl dX12_weight_13 ?_
    refine hf_iconst (pc := 14) dX12_weight_14 ?_
    refine hf_bipush (pc := 15) dX12_weight_15 (by decide) ?_
    refine hf_cS (pc := 17) (N := M_X12_isIn) (ts := [0, 0, 0]) (vs := [x2, 0, 99]) (st := []) (fun r => [(0, r)]) (c_X12_isIn x2 0 99) cal_X12_isIn ml_X12_133 ⟨hf_le rfl, hf_le rfl⟩ (hf_le rfl) ⟨rfl, rfl⟩ rfl dX12_weight_17 (fun _ => rfl) (fun v17 => ?_)
    refine hf_if_ne (pc := 20) 25 dX12_weight_20 rfl ?_ ?_
    · refine hf_ald_n (pc := 25) 0 rfl rfl dX12_weight_25 ?_
      refine hf_getf (pc := 26) fl_X12_26 dX12_weight_26 (fun v26 => ?_)
      refine hf_ild_n (pc := 29) 1 rfl rfl dX12_weight_29 ?_
      refine hf_ild_n (pc := 30) 2 rfl rfl dX12_weight_30 ?_
      refine hf_iast (pc := 31) dX12_weight_31 ?_
      refine hf_iconst (pc := 32) dX12_weight_32 ?_
      exact hf_Jret (pc := 33) (r := 1) ⟨dX12_weight_33, Or.inr rfl⟩ (fun _ => rfl)
    · refine hf_iconst (pc := 23) dX12_weight_23 ?_
      exact hf_Jret (pc := 24) (r := 0) ⟨dX12_weight_24, Or.inl rfl⟩ (fun _ => rfl)
/-! HighFallModel.fails(I)I -/
def M_X12_fails : hf_D := (yX12_fails, cX12_fails, 2, some .int, 0, 0)
def f_X12_fails (x0 x1 : Int) : hf_M Int :=
  hf_bd (hf_pf 12 2 x0 x1) (fun _ => hf_ret 0)
theorem cal_X12_fails : hf_cv M_X12_fails 12 1 := ⟨⟨ii_X12, kc_X12_fails, by decide, by decide, by decide +kernel⟩, ki_X12_fails, kv_X12_fails, _, rfl, rfl⟩
set_option maxRecDepth 20000 in
theorem c_X12_fails (x0 x1 : Int) : hf_Met M_X12_fails [2, 0] [x0, x1] (f_X12_fails x0 x1) := by
  refine hf_met rfl (by decide) (by decide) (by decide) ?_
  show hf_J M_X12_fails 0 [(0, 2, x0), (1, 0, x1)] [] _
  refine hf_ald_n (pc := 0) 0 rfl rfl dX12_fails_0 ?_
  refine hf_ild_n (pc := 1) 1 rfl rfl dX12_fails_1 ?_
  refine hf_putf (pc := 2) fl_X12_127 trivial dX12_fails_2 ?_
  refine hf_iconst (pc := 5) dX12_fails_5 ?_
  exact hf_Jret (pc := 6) dX12_fails_6 (fun _ => rfl)
/-! HighFallModel.look(II)I -/
def M_X12_look : hf_D := (yX12_look, cX12_look, 3, some .int, 1, 21)
def f_X12_look (x0 x1 x2 : Int) : hf_M Int :=
  hf_bd (hf_pf 12 2 x0 0) (fun _ => hf_bd (f_X12_isKind x1) (fun v6 => hf_cz v6 (¬ v6 = 0) (hf_ck (hf_inI x2) (hf_it (x2 = 0) (hf_bd (hf_gf 12 4 x0) (fun v45 => hf_bd (hf_al 20 v45 x1) (fun v49 => hf_ret v49))) (hf_it (x2 = 1) (hf_bd (hf_gf 12 5 x0) (fun v52 => hf_bd (hf_al 20 v52 x1) (fun v56 => hf_ret v56))) (hf_it (x2 = 2) (hf_bd (hf_gf 12 6 x0) (fun v59 => hf_bd (hf_al 20 v59 x1) (fun v63 => hf_ret v63))) (hf_bd (hf_ob 12 x0 (f_X12_fails x0 2)) (fun v67 => hf_ret v67)))))) (hf_bd (hf_ob 12 x0 (f_X12_fails x0 1)) (fun v14 => hf_ret v14))))
theorem cal_X12_look : hf_cv M_X12_look 12 2 := ⟨⟨ii_X12, kc_X12_look, by decide, by decide, by decide +kernel⟩, ki_X12_look, kv_X12_look, _, rfl, rfl⟩
set_option maxRecDepth 20000 in
theorem c_X12_look (x0 x1 x2 : Int) : hf_Met M_X12_look [2, 0, 0] [x0, x1, x2] (f_X12_look x0 x1 x2) := by
  refine hf_met rfl (by decide) (by decide) (by decide) ?_
  show hf_J M_X12_look 0 [(0, 2, x0), (1, 0, x1), (2, 0, x2)] [] _
  refine hf_ald_n (pc := 0) 0 rfl rfl dX12_look_0 ?_
  refine hf_iconst (pc := 1) dX12_look_1 ?_
  refine hf_putf (pc := 2) fl_X12_127 trivial dX12_look_2 ?_
  refine hf_ild_n (pc := 5) 1 rfl rfl dX12_look_5 ?_
  refine hf_cS (pc := 6) (N := M_X12_isKind) (ts := [0]) (vs := [x1]) (st := []) (fun r => [(0, r)]) (c_X12_isKind x1) cal_X12_isKind ml_X12_144 ⟨hf_le rfl, hf_le rfl⟩ (hf_le rfl) ⟨rfl, rfl⟩ rfl dX12_look_6 (fun _ => rfl) (fun v6 => ?_)
  refine hf_if_ne (pc := 9) 18 dX12_look_9 rfl ?_ ?_
  · refine hf_ild_n (pc := 18) 2 rfl rfl dX12_look_18 ?_
    refine hf_Jck (fun hr => ?_)
    refine hf_Jit (fun hc0 => ?_) (fun hc0 => ?_)
    · refine hf_tsw (pc := 19) 44 25 hr dX12_look_19 (by omega) (by omega) (by rw [hc0]; rfl) rfl ?_
      refine hf_ald_n (pc := 44) 0 rfl rfl dX12_look_44 ?_
      refine hf_getf (pc := 45) fl_X12_17 dX12_look_45 (fun v45 => ?_)
      refine hf_ild_n (pc := 48) 1 rfl rfl dX12_look_48 ?_
      refine hf_iald (pc := 49) dX12_look_49 (fun v49 => ?_)
      exact hf_Jret (pc := 50) dX12_look_50 (fun _ => rfl)
    · refine hf_Jit (fun hc1 => ?_) (fun hc1 => ?_)
      · refine hf_tsw (pc := 19) 51 32 hr dX12_look_19 (by omega) (by omega) (by rw [hc1]; rfl) rfl ?_
        refine hf_ald_n (pc := 51) 0 rfl rfl dX12_look_51 ?_
        refine hf_getf (pc := 52) fl_X12_20 dX12_look_52 (fun v52 => ?_)
        refine hf_ild_n (pc := 55) 1 rfl rfl dX12_look_55 ?_
        refine hf_iald (pc := 56) dX12_look_56 (fun v56 => ?_)
        exact hf_Jret (pc := 57) dX12_look_57 (fun _ => rfl)
      · refine hf_Jit (fun hc2 => ?_) (fun hc2 => ?_)
        · refine hf_tsw (pc := 19) 58 39 hr dX12_look_19 (by omega) (by omega) (by rw [hc2]; rfl) rfl ?_
          refine hf_ald_n (pc := 58) 0 rfl rfl dX12_look_58 ?_
          refine hf_getf (pc := 59) fl_X12_23 dX12_look_59 (fun v59 => ?_)
          refine hf_ild_n (pc := 62) 1 rfl rfl dX12_look_62 ?_
          refine hf_iald (pc := 63) dX12_look_63 (fun v63 => ?_)
          exact hf_Jret (pc := 64) dX12_look_64 (fun _ => rfl)
        · refine hf_tswd (pc := 19) 65 hr dX12_look_19 (by omega) rfl ?_
          refine hf_ald_n (pc := 65) 0 rfl rfl dX12_look_65 ?_
          refine hf_iconst (pc := 66) dX12_look_66 ?_
          refine hf_cV (pc := 67) (N := M_X12_fails) (ts := [0]) (vs := [2]) (st := []) (fun r => [(0, r)]) (c_X12_fails x0 2) cal_X12_fails ml_X12_154 ⟨hf_le rfl, hf_le rfl⟩ (hf_le rfl) ⟨rfl, rfl⟩ rfl dX12_look_67 (fun _ => rfl) (fun v67 => ?_)
          exact hf_Jret (pc := 70) dX12_look_70 (fun _ => rfl)
  · refine hf_ald_n (pc := 12) 0 rfl rfl dX12_look_12 ?_
    refine hf_iconst (pc := 13) dX12_look_13 ?_
    refine hf_cV (pc := 14) (N := M_X12_fails) (ts := [0]) (vs := [1]) (st := []) (fun r => [(0, r)]) (c_X12_fails x0 1) cal_X12_fails ml_X12_154 ⟨hf_le rfl, hf_le rfl⟩ (hf_le rfl) ⟨rfl, rfl⟩ rfl dX12_look_14 (fun _ => rfl) (fun v14 => ?_)
    exact hf_Jret (pc := 17) dX12_look_17 (fun _ => rfl)
/-! HighFallModel.thrown()I -/
def M_X12_thrown : hf_D := (yX12_thrown, cX12_thrown, 1, some .int, 0, 0)
def f_X12_thrown (x0 : Int) : hf_M Int :=
  hf_bd (hf_gf 12 2 x0) (fun v1 => hf_ret v1)
theorem cal_X12_thrown : hf_cv M_X12_thrown 12 0 := ⟨⟨ii_X12, kc_X12_thrown, by decide, by decide, by decide +kernel⟩, ki_X12_thrown, kv_X12_thrown, _, rfl, rfl⟩
set_option maxRecDepth 20000 in
theorem c_X12_thrown (x0 : Int) : hf_Met M_X12_thrown [2] [x0] (f_X12_thrown x0) := by
  refine hf_met rfl (by decide) (by decide) (by decide) ?_
  show hf_J M_X12_thrown 0 [(0, 2, x0)] [] _
  refine hf_ald_n (pc := 0) 0 rfl rfl dX12_thrown_0 ?_
  refine hf_getf (pc := 1) fl_X12_127 dX12_thrown_1 (fun v1 => ?_)
  exact hf_Jret (pc := 4) dX12_thrown_4 (fun _ => rfl)
/-! HighFallModel.likely(I)I -/
def M_X12_likely : hf_D := (yX12_likely, cX12_likely, 2, some .int, 1, 21)
def f_X12_likely (x0 x1 : Int) : hf_M Int :=
  hf_bd (hf_pf 12 2 x0 0) (fun _ => hf_bd (hf_ob 12 x0 (f_X12_isStrength x0 x1)) (fun v7 => hf_cz v7 (v7 = 0) (hf_ret (-1)) (hf_bd (hf_gf 12 7 x0) (fun v14 => hf_bd (hf_al 20 v14 x1) (fun v18 => hf_ret v18)))))
theorem cal_X12_likely : hf_cv M_X12_likely 12 1 := ⟨⟨ii_X12, kc_X12_likely, by decide, by decide, by decide +kernel⟩, ki_X12_likely, kv_X12_likely, _, rfl, rfl⟩
set_option maxRecDepth 20000 in
theorem c_X12_likely (x0 x1 : Int) : hf_Met M_X12_likely [2, 0] [x0, x1] (f_X12_likely x0 x1) := by
  refine hf_met rfl (by decide) (by decide) (by decide) ?_
  show hf_J M_X12_likely 0 [(0, 2, x0), (1, 0, x1)] [] _
  refine hf_ald_n (pc := 0) 0 rfl rfl dX12_likely_0 ?_
  refine hf_iconst (pc := 1) dX12_likely_1 ?_
  refine hf_putf (pc := 2) fl_X12_127 trivial dX12_likely_2 ?_
  refine hf_ald_n (pc := 5) 0 rfl rfl dX12_likely_5 ?_
  refine hf_ild_n (pc := 6) 1 rfl rfl dX12_likely_6 ?_
  refine hf_cV (pc := 7) (N := M_X12_isStrength) (ts := [0]) (vs := [x1]) (st := []) (fun r => [(0, r)]) (c_X12_isStrength x0 x1) cal_X12_isStrength ml_X12_151 ⟨hf_le rfl, hf_le rfl⟩ (hf_le rfl) ⟨rfl, rfl⟩ rfl dX12_likely_7 (fun _ => rfl) (fun v7 => ?_)
  refine hf_if_eq (pc := 10) 22 dX12_likely_10 rfl ?_ ?_
  · refine hf_iconst (pc := 22) dX12_likely_22 ?_
    exact hf_Jret (pc := 23) dX12_likely_23 (fun _ => rfl)
  · refine hf_ald_n (pc := 13) 0 rfl rfl dX12_likely_13 ?_
    refine hf_getf (pc := 14) fl_X12_26 dX12_likely_14 (fun v14 => ?_)
    refine hf_ild_n (pc := 17) 1 rfl rfl dX12_likely_17 ?_
    refine hf_iald (pc := 18) dX12_likely_18 (fun v18 => ?_)
    refine hf_goto (pc := 19) 23 dX12_likely_19 rfl ?_
    exact hf_Jret (pc := 23) dX12_likely_23 (fun _ => rfl)
/-! HighFallModel.isSmall(I)Z -/
def M_X12_isSmall : hf_D := (yX12_isSmall, cX12_isSmall, 2, some .boolean, 0, 0)
def f_X12_isSmall (x0 x1 : Int) : hf_M Int :=
  hf_bd (hf_gf 12 13 x0) (fun v2 => hf_cb x1 v2 (v2 ≤ x1) (hf_ret 0) (hf_bd (hf_gf 12 0 x0) (fun v9 => hf_bd (hf_al 20 v9 x1) (fun v13 => hf_cb v13 97 (v13 < 97) (hf_ret 0) (hf_bd (hf_gf 12 0 x0) (fun v20 => hf_bd (hf_al 20 v20 x1) (fun v24 => hf_cb v24 122 (122 < v24) (hf_ret 0) (hf_ret 1))))))))
theorem cal_X12_isSmall : hf_cv M_X12_isSmall 12 1 := ⟨⟨ii_X12, kc_X12_isSmall, by decide, by decide, by decide +kernel⟩, ki_X12_isSmall, kv_X12_isSmall, _, rfl, rfl⟩
set_option maxRecDepth 20000 in
theorem c_X12_isSmall (x0 x1 : Int) : hf_Met M_X12_isSmall [2, 0] [x0, x1] (f_X12_isSmall x0 x1) := by
  refine hf_met rfl (by decide) (by decide) (by decide) ?_
  show hf_J M_X12_isSmall 0 [(0, 2, x0), (1, 0, x1)] [] _
  refine hf_ild_n (pc := 0) 1 rfl rfl dX12_isSmall_0 ?_
  refine hf_ald_n (pc := 1) 0 rfl rfl dX12_isSmall_1 ?_
  refine hf_getf (pc := 2) fl_X12_164 dX12_isSmall_2 (fun v2 => ?_)
  refine hf_icmp_ge (pc := 5) 34 dX12_isSmall_5 rfl ?_ ?_
  · refine hf_iconst (pc := 34) dX12_isSmall_34 ?_
    exact hf_Jret (pc := 35) (r := 0) ⟨dX12_isSmall_35, Or.inl rfl⟩ (fun _ => rfl)
  · refine hf_ald_n (pc := 8) 0 rfl rfl dX12_isSmall_8 ?_
    refine hf_getf (pc := 9) fl_X12_7 dX12_isSmall_9 (fun v9 => ?_)
    refine hf_ild_n (pc := 12) 1 rfl rfl dX12_isSmall_12 ?_
    refine hf_iald (pc := 13) dX12_isSmall_13 (fun v13 => ?_)
    refine hf_bipush (pc := 14) dX12_isSmall_14 (by decide) ?_
    refine hf_icmp_lt (pc := 16) 34 dX12_isSmall_16 rfl ?_ ?_
    · refine hf_iconst (pc := 34) dX12_isSmall_34 ?_
      exact hf_Jret (pc := 35) (r := 0) ⟨dX12_isSmall_35, Or.inl rfl⟩ (fun _ => rfl)
    · refine hf_ald_n (pc := 19) 0 rfl rfl dX12_isSmall_19 ?_
      refine hf_getf (pc := 20) fl_X12_7 dX12_isSmall_20 (fun v20 => ?_)
      refine hf_ild_n (pc := 23) 1 rfl rfl dX12_isSmall_23 ?_
      refine hf_iald (pc := 24) dX12_isSmall_24 (fun v24 => ?_)
      refine hf_bipush (pc := 25) dX12_isSmall_25 (by decide) ?_
      refine hf_icmp_gt (pc := 27) 34 dX12_isSmall_27 rfl ?_ ?_
      · refine hf_iconst (pc := 34) dX12_isSmall_34 ?_
        exact hf_Jret (pc := 35) (r := 0) ⟨dX12_isSmall_35, Or.inl rfl⟩ (fun _ => rfl)
      · refine hf_iconst (pc := 30) dX12_isSmall_30 ?_
        refine hf_goto (pc := 31) 35 dX12_isSmall_31 rfl ?_
        exact hf_Jret (pc := 35) (r := 1) ⟨dX12_isSmall_35, Or.inr rfl⟩ (fun _ => rfl)
/-! HighFallModel.wordAt(II)I -/
def M_X12_wordAt : hf_D := (yX12_wordAt, cX12_wordAt, 8, some .int, 0, 0)
def f_X12_wordAt_104 (rec_5 : Int × Int → hf_M Int) (x0 x1 x2 x3 x4 x5 x6 : Int) : hf_M Int :=
  hf_cz x6 (x6 = 0) (hf_bd (hf_ret (x4 + (x5 + 1))) (fun x4_118 => hf_bd (hf_ret (x3 + 1)) (fun x3_120 => rec_5 (x3_120, x4_118)))) (hf_ret x3)
def B_X12_wordAt_57 (rec_5 : Int × Int → hf_M Int) (x0 x1 x2 x3 x4 x5 : Int) (rec_57 : Int × Int → hf_M Int) (x6 x7 : Int) : hf_M Int :=
  hf_cb x7 x5 (x5 ≤ x7) (f_X12_wordAt_104 rec_5 x0 x1 x2 x3 x4 x5 x6) (hf_cz x6 (x6 = 0) (f_X12_wordAt_104 rec_5 x0 x1 x2 x3 x4 x5 x6) (hf_bd (hf_gf 12 10 x0) (fun v70 => hf_bd (hf_al 20 v70 (x4 + x7)) (fun v78 => hf_bd (hf_gf 12 0 x0) (fun v80 => hf_bd (hf_al 20 v80 (x1 + x7)) (fun v87 => hf_ck (hf_inI v78 ∧ hf_inI v87) (hf_bd (hf_ret (if ¬ v78 = v87 then 0 else 1)) (fun w96 => hf_bd (hf_ret (x7 + 1)) (fun x7_98 => rec_57 (w96, x7_98))))))))))
def f_X12_wordAt_57 (rec_5 : Int × Int → hf_M Int) (x0 x1 x2 x3 x4 x5 x6 x7 : Int) : hf_M Int := hf_fx (fun rec s => B_X12_wordAt_57 rec_5 x0 x1 x2 x3 x4 x5 rec s.1 s.2) hf_N (x6, x7)
def B_X12_wordAt_18 (rec_5 : Int × Int → hf_M Int) (x0 x1 x2 x3 x4 : Int) (rec_18 : Int → hf_M Int) (x5 : Int) : hf_M Int :=
  hf_bd (hf_gf 12 10 x0) (fun v19 => hf_bd (hf_al 20 v19 (x4 + x5)) (fun v27 => hf_cb v27 32 (v27 = 32) (hf_ck (hf_inI x5 ∧ hf_inI (x2 - x1)) (hf_bd (hf_ret (if ¬ x5 = (x2 - x1) then 0 else 1)) (fun w52 => f_X12_wordAt_57 rec_5 x0 x1 x2 x3 x4 x5 w52 0))) (hf_bd (hf_ret (x5 + 1)) (fun x5_33 => rec_18 x5_33))))
def f_X12_wordAt_18 (rec_5 : Int × Int → hf_M Int) (x0 x1 x2 x3 x4 x5 : Int) : hf_M Int := hf_fx (fun rec s => B_X12_wordAt_18 rec_5 x0 x1 x2 x3 x4 rec s) hf_N x5
def B_X12_wordAt_5 (x0 x1 x2 : Int) (rec_5 : Int × Int → hf_M Int) (x3 x4 : Int) : hf_M Int :=
  hf_bd (hf_gf 12 10 x0) (fun v8 => hf_bd (hf_an 20 v8) (fun v11 => hf_cb x4 v11 (v11 ≤ x4) (hf_ret (-1)) (f_X12_wordAt_18 rec_5 x0 x1 x2 x3 x4 0)))
def f_X12_wordAt_5 (x0 x1 x2 x3 x4 : Int) : hf_M Int := hf_fx (fun rec s => B_X12_wordAt_5 x0 x1 x2 rec s.1 s.2) hf_N (x3, x4)
def f_X12_wordAt (x0 x1 x2 : Int) : hf_M Int :=
  f_X12_wordAt_5 x0 x1 x2 0 0
theorem cal_X12_wordAt : hf_cv M_X12_wordAt 12 2 := ⟨⟨ii_X12, kc_X12_wordAt, by decide, by decide, by decide +kernel⟩, ki_X12_wordAt, kv_X12_wordAt, _, rfl, rfl⟩
set_option maxRecDepth 20000 in
theorem j_X12_wordAt_104 (x0 x1 x2 x3 x4 x5 x6 : Int) (rec_5 : Int × Int → hf_M Int) (hrec_5 : ∀ s : Int × Int, hf_J M_X12_wordAt 5 [(0, 2, x0), (1, 0, x1), (2, 0, x2), (3, 0, s.1), (4, 0, s.2)] [] (rec_5 s)) : hf_J M_X12_wordAt 104 [(0, 2, x0), (1, 0, x1), (2, 0, x2), (3, 0, x3), (4, 0, x4), (5, 0, x5), (6, 0, x6)] [] (f_X12_wordAt_104 rec_5 x0 x1 x2 x3 x4 x5 x6) := by
  refine hf_ild (pc := 104) 6 rfl dX12_wordAt_104 ?_
  refine hf_if_eq (pc := 106) 111 dX12_wordAt_106 rfl ?_ ?_
  · refine hf_ild (pc := 111) 4 rfl dX12_wordAt_111 ?_
    refine hf_ild (pc := 113) 5 rfl dX12_wordAt_113 ?_
    refine hf_iconst (pc := 115) dX12_wordAt_115 ?_
    refine hf_iadd (pc := 116) dX12_wordAt_116 ?_
    refine hf_iadd (pc := 117) dX12_wordAt_117 ?_
    refine hf_istB (pc := 118) (fun y => [(4, 0, y), (0, 2, x0), (1, 0, x1), (2, 0, x2), (3, 0, x3), (5, 0, x5), (6, 0, x6)]) (by decide) (fun _ => rfl) dX12_wordAt_118 (fun x4_118 => ?_)
    refine hf_iincB (pc := 120) (fun y => [(3, 0, y), (4, 0, x4_118), (0, 2, x0), (1, 0, x1), (2, 0, x2), (5, 0, x5), (6, 0, x6)]) (q := 4) rfl (by decide) (fun _ => rfl) dX12_wordAt_120 (fun x3_120 => ?_)
    refine hf_goto (pc := 123) 5 dX12_wordAt_123 rfl ?_
    exact hf_sub [2, 3, 4, 0, 1] rfl (hrec_5 (x3_120, x4_118))
  · refine hf_ild_n (pc := 109) 3 rfl rfl dX12_wordAt_109 ?_
    exact hf_Jret (pc := 110) dX12_wordAt_110 (fun _ => rfl)
set_option maxRecDepth 20000 in
theorem jb_X12_wordAt_57 (x0 x1 x2 x3 x4 x5 : Int) (rec_5 : Int × Int → hf_M Int) (hrec_5 : ∀ s : Int × Int, hf_J M_X12_wordAt 5 [(0, 2, x0), (1, 0, x1), (2, 0, x2), (3, 0, s.1), (4, 0, s.2)] [] (rec_5 s)) (rec_57 : Int × Int → hf_M Int) (hrec_57 : ∀ s : Int × Int, hf_J M_X12_wordAt 57 [(0, 2, x0), (1, 0, x1), (2, 0, x2), (3, 0, x3), (4, 0, x4), (5, 0, x5), (6, 0, s.1), (7, 0, s.2)] [] (rec_57 s)) (x6 x7 : Int) : hf_J M_X12_wordAt 57 [(0, 2, x0), (1, 0, x1), (2, 0, x2), (3, 0, x3), (4, 0, x4), (5, 0, x5), (6, 0, x6), (7, 0, x7)] [] (B_X12_wordAt_57 rec_5 x0 x1 x2 x3 x4 x5 rec_57 x6 x7) := by
  refine hf_ild (pc := 57) 7 rfl dX12_wordAt_57 ?_
  refine hf_ild (pc := 59) 5 rfl dX12_wordAt_59 ?_
  refine hf_icmp_ge (pc := 61) 104 dX12_wordAt_61 rfl ?_ ?_
  · exact hf_sub [0, 1, 2, 3, 4, 5, 6] rfl (j_X12_wordAt_104 x0 x1 x2 x3 x4 x5 x6 rec_5 hrec_5)
  · refine hf_ild (pc := 64) 6 rfl dX12_wordAt_64 ?_
    refine hf_if_eq (pc := 66) 104 dX12_wordAt_66 rfl ?_ ?_
    · exact hf_sub [0, 1, 2, 3, 4, 5, 6] rfl (j_X12_wordAt_104 x0 x1 x2 x3 x4 x5 x6 rec_5 hrec_5)
    · refine hf_ald_n (pc := 69) 0 rfl rfl dX12_wordAt_69 ?_
      refine hf_getf (pc := 70) fl_X12_32 dX12_wordAt_70 (fun v70 => ?_)
      refine hf_ild (pc := 73) 4 rfl dX12_wordAt_73 ?_
      refine hf_ild (pc := 75) 7 rfl dX12_wordAt_75 ?_
      refine hf_iadd (pc := 77) dX12_wordAt_77 ?_
      refine hf_iald (pc := 78) dX12_wordAt_78 (fun v78 => ?_)
      refine hf_ald_n (pc := 79) 0 rfl rfl dX12_wordAt_79 ?_
      refine hf_getf (pc := 80) fl_X12_7 dX12_wordAt_80 (fun v80 => ?_)
      refine hf_ild_n (pc := 83) 1 rfl rfl dX12_wordAt_83 ?_
      refine hf_ild (pc := 84) 7 rfl dX12_wordAt_84 ?_
      refine hf_iadd (pc := 86) dX12_wordAt_86 ?_
      refine hf_iald (pc := 87) dX12_wordAt_87 (fun v87 => ?_)
      refine hf_Jdib (pc := 88) (pcM := 96) (t := 0) (stM := []) (fun w96 => ?_) (fun a1 a2 => ?_)
      · refine hf_ist (pc := 96) (lv' := [(6, 0, w96), (0, 2, x0), (1, 0, x1), (2, 0, x2), (3, 0, x3), (4, 0, x4), (5, 0, x5), (7, 0, x7)]) (by decide) rfl dX12_wordAt_96 ?_
        refine hf_iincB (pc := 98) (fun y => [(7, 0, y), (6, 0, w96), (0, 2, x0), (1, 0, x1), (2, 0, x2), (3, 0, x3), (4, 0, x4), (5, 0, x5)]) (q := 7) rfl (by decide) (fun _ => rfl) dX12_wordAt_98 (fun x7_98 => ?_)
        refine hf_goto (pc := 101) 57 dX12_wordAt_101 rfl ?_
        exact hf_sub [2, 3, 4, 5, 6, 7, 1, 0] rfl (hrec_57 (w96, x7_98))
      · refine hf_icmp_ne (pc := 88) 95 dX12_wordAt_88 rfl ?_ ?_
        · refine hf_iconst (pc := 95) dX12_wordAt_95 ?_
          exact a1
        · refine hf_iconst (pc := 91) dX12_wordAt_91 ?_
          refine hf_goto (pc := 92) 96 dX12_wordAt_92 rfl ?_
          exact a2
set_option maxRecDepth 20000 in
theorem j_X12_wordAt_57 (x0 x1 x2 x3 x4 x5 x6 x7 : Int) (rec_5 : Int × Int → hf_M Int) (hrec_5 : ∀ s : Int × Int, hf_J M_X12_wordAt 5 [(0, 2, x0), (1, 0, x1), (2, 0, x2), (3, 0, s.1), (4, 0, s.2)] [] (rec_5 s)) : hf_J M_X12_wordAt 57 [(0, 2, x0), (1, 0, x1), (2, 0, x2), (3, 0, x3), (4, 0, x4), (5, 0, x5), (6, 0, x6), (7, 0, x7)] [] (f_X12_wordAt_57 rec_5 x0 x1 x2 x3 x4 x5 x6 x7) :=
  hf_Jfx (L := fun s => [(0, 2, x0), (1, 0, x1), (2, 0, x2), (3, 0, x3), (4, 0, x4), (5, 0, x5), (6, 0, s.1), (7, 0, s.2)]) (fun rec hrec s => jb_X12_wordAt_57 x0 x1 x2 x3 x4 x5 rec_5 hrec_5 rec hrec s.1 s.2) hf_N (x6, x7)
set_option maxRecDepth 20000 in
theorem jb_X12_wordAt_18 (x0 x1 x2 x3 x4 : Int) (rec_5 : Int × Int → hf_M Int) (hrec_5 : ∀ s : Int × Int, hf_J M_X12_wordAt 5 [(0, 2, x0), (1, 0, x1), (2, 0, x2), (3, 0, s.1), (4, 0, s.2)] [] (rec_5 s)) (rec_18 : Int → hf_M Int) (hrec_18 : ∀ s : Int, hf_J M_X12_wordAt 18 [(0, 2, x0), (1, 0, x1), (2, 0, x2), (3, 0, x3), (4, 0, x4), (5, 0, s)] [] (rec_18 s)) (x5 : Int) : hf_J M_X12_wordAt 18 [(0, 2, x0), (1, 0, x1), (2, 0, x2), (3, 0, x3), (4, 0, x4), (5, 0, x5)] [] (B_X12_wordAt_18 rec_5 x0 x1 x2 x3 x4 rec_18 x5) := by
  refine hf_ald_n (pc := 18) 0 rfl rfl dX12_wordAt_18 ?_
  refine hf_getf (pc := 19) fl_X12_32 dX12_wordAt_19 (fun v19 => ?_)
  refine hf_ild (pc := 22) 4 rfl dX12_wordAt_22 ?_
  refine hf_ild (pc := 24) 5 rfl dX12_wordAt_24 ?_
  refine hf_iadd (pc := 26) dX12_wordAt_26 ?_
  refine hf_iald (pc := 27) dX12_wordAt_27 (fun v27 => ?_)
  refine hf_bipush (pc := 28) dX12_wordAt_28 (by decide) ?_
  refine hf_icmp_eq (pc := 30) 39 dX12_wordAt_30 rfl ?_ ?_
  · refine hf_ild (pc := 39) 5 rfl dX12_wordAt_39 ?_
    refine hf_ild_n (pc := 41) 2 rfl rfl dX12_wordAt_41 ?_
    refine hf_ild_n (pc := 42) 1 rfl rfl dX12_wordAt_42 ?_
    refine hf_isub (pc := 43) dX12_wordAt_43 ?_
    refine hf_Jdib (pc := 44) (pcM := 52) (t := 0) (stM := []) (fun w52 => ?_) (fun a1 a2 => ?_)
    · refine hf_ist (pc := 52) (lv' := [(6, 0, w52), (0, 2, x0), (1, 0, x1), (2, 0, x2), (3, 0, x3), (4, 0, x4), (5, 0, x5)]) (by decide) rfl dX12_wordAt_52 ?_
      refine hf_iconst (pc := 54) dX12_wordAt_54 ?_
      refine hf_ist (pc := 55) (lv' := [(7, 0, 0), (6, 0, w52), (0, 2, x0), (1, 0, x1), (2, 0, x2), (3, 0, x3), (4, 0, x4), (5, 0, x5)]) (by decide) rfl dX12_wordAt_55 ?_
      exact hf_sub [2, 3, 4, 5, 6, 7, 1, 0] rfl (j_X12_wordAt_57 x0 x1 x2 x3 x4 x5 w52 0 rec_5 hrec_5)
    · refine hf_icmp_ne (pc := 44) 51 dX12_wordAt_44 rfl ?_ ?_
      · refine hf_iconst (pc := 51) dX12_wordAt_51 ?_
        exact a1
      · refine hf_iconst (pc := 47) dX12_wordAt_47 ?_
        refine hf_goto (pc := 48) 52 dX12_wordAt_48 rfl ?_
        exact a2
  · refine hf_iincB (pc := 33) (fun y => [(5, 0, y), (0, 2, x0), (1, 0, x1), (2, 0, x2), (3, 0, x3), (4, 0, x4)]) (q := 5) rfl (by decide) (fun _ => rfl) dX12_wordAt_33 (fun x5_33 => ?_)
    refine hf_goto (pc := 36) 18 dX12_wordAt_36 rfl ?_
    exact hf_sub [1, 2, 3, 4, 5, 0] rfl (hrec_18 x5_33)
set_option maxRecDepth 20000 in
theorem j_X12_wordAt_18 (x0 x1 x2 x3 x4 x5 : Int) (rec_5 : Int × Int → hf_M Int) (hrec_5 : ∀ s : Int × Int, hf_J M_X12_wordAt 5 [(0, 2, x0), (1, 0, x1), (2, 0, x2), (3, 0, s.1), (4, 0, s.2)] [] (rec_5 s)) : hf_J M_X12_wordAt 18 [(0, 2, x0), (1, 0, x1), (2, 0, x2), (3, 0, x3), (4, 0, x4), (5, 0, x5)] [] (f_X12_wordAt_18 rec_5 x0 x1 x2 x3 x4 x5) :=
  hf_Jfx (L := fun s => [(0, 2, x0), (1, 0, x1), (2, 0, x2), (3, 0, x3), (4, 0, x4), (5, 0, s)]) (fun rec hrec s => jb_X12_wordAt_18 x0 x1 x2 x3 x4 rec_5 hrec_5 rec hrec s) hf_N x5
set_option maxRecDepth 20000 in
theorem jb_X12_wordAt_5 (x0 x1 x2 : Int) (rec_5 : Int × Int → hf_M Int) (hrec_5 : ∀ s : Int × Int, hf_J M_X12_wordAt 5 [(0, 2, x0), (1, 0, x1), (2, 0, x2), (3, 0, s.1), (4, 0, s.2)] [] (rec_5 s)) (x3 x4 : Int) : hf_J M_X12_wordAt 5 [(0, 2, x0), (1, 0, x1), (2, 0, x2), (3, 0, x3), (4, 0, x4)] [] (B_X12_wordAt_5 x0 x1 x2 rec_5 x3 x4) := by
  refine hf_ild (pc := 5) 4 rfl dX12_wordAt_5 ?_
  refine hf_ald_n (pc := 7) 0 rfl rfl dX12_wordAt_7 ?_
  refine hf_getf (pc := 8) fl_X12_32 dX12_wordAt_8 (fun v8 => ?_)
  refine hf_alen (pc := 11) 20 (by decide) (by decide) dX12_wordAt_11 (fun v11 => ?_)
  refine hf_icmp_ge (pc := 12) 126 dX12_wordAt_12 rfl ?_ ?_
  · refine hf_iconst (pc := 126) dX12_wordAt_126 ?_
    exact hf_Jret (pc := 127) dX12_wordAt_127 (fun _ => rfl)
  · refine hf_iconst (pc := 15) dX12_wordAt_15 ?_
    refine hf_ist (pc := 16) (lv' := [(5, 0, 0), (0, 2, x0), (1, 0, x1), (2, 0, x2), (3, 0, x3), (4, 0, x4)]) (by decide) rfl dX12_wordAt_16 ?_
    exact hf_sub [1, 2, 3, 4, 5, 0] rfl (j_X12_wordAt_18 x0 x1 x2 x3 x4 0 rec_5 hrec_5)
set_option maxRecDepth 20000 in
theorem j_X12_wordAt_5 (x0 x1 x2 x3 x4 : Int) : hf_J M_X12_wordAt 5 [(0, 2, x0), (1, 0, x1), (2, 0, x2), (3, 0, x3), (4, 0, x4)] [] (f_X12_wordAt_5 x0 x1 x2 x3 x4) :=
  hf_Jfx (L := fun s => [(0, 2, x0), (1, 0, x1), (2, 0, x2), (3, 0, s.1), (4, 0, s.2)]) (fun rec hrec s => jb_X12_wordAt_5 x0 x1 x2 rec hrec s.1 s.2) hf_N (x3, x4)
set_option maxRecDepth 20000 in
theorem c_X12_wordAt (x0 x1 x2 : Int) : hf_Met M_X12_wordAt [2, 0, 0] [x0, x1, x2] (f_X12_wordAt x0 x1 x2) := by
  refine hf_met rfl (by decide) (by decide) (by decide) ?_
  show hf_J M_X12_wordAt 0 [(0, 2, x0), (1, 0, x1), (2, 0, x2)] [] _
  refine hf_iconst (pc := 0) dX12_wordAt_0 ?_
  refine hf_ist_n (pc := 1) (lv' := [(3, 0, 0), (0, 2, x0), (1, 0, x1), (2, 0, x2)]) rfl (by decide) rfl dX12_wordAt_1 ?_
  refine hf_iconst (pc := 2) dX12_wordAt_2 ?_
  refine hf_ist (pc := 3) (lv' := [(4, 0, 0), (3, 0, 0), (0, 2, x0), (1, 0, x1), (2, 0, x2)]) (by decide) rfl dX12_wordAt_3 ?_
  exact hf_sub [2, 3, 4, 1, 0] rfl (j_X12_wordAt_5 x0 x1 x2 0 0)
/-! HighFallModel.isDigit(I)Z -/
def M_X12_isDigit : hf_D := (yX12_isDigit, cX12_isDigit, 2, some .boolean, 0, 0)
def f_X12_isDigit (x0 x1 : Int) : hf_M Int :=
  hf_bd (hf_gf 12 13 x0) (fun v2 => hf_cb x1 v2 (v2 ≤ x1) (hf_ret 0) (hf_bd (hf_gf 12 0 x0) (fun v9 => hf_bd (hf_al 20 v9 x1) (fun v13 => hf_cb v13 48 (v13 < 48) (hf_ret 0) (hf_bd (hf_gf 12 0 x0) (fun v20 => hf_bd (hf_al 20 v20 x1) (fun v24 => hf_cb v24 57 (57 < v24) (hf_ret 0) (hf_ret 1))))))))
theorem cal_X12_isDigit : hf_cv M_X12_isDigit 12 1 := ⟨⟨ii_X12, kc_X12_isDigit, by decide, by decide, by decide +kernel⟩, ki_X12_isDigit, kv_X12_isDigit, _, rfl, rfl⟩
set_option maxRecDepth 20000 in
theorem c_X12_isDigit (x0 x1 : Int) : hf_Met M_X12_isDigit [2, 0] [x0, x1] (f_X12_isDigit x0 x1) := by
  refine hf_met rfl (by decide) (by decide) (by decide) ?_
  show hf_J M_X12_isDigit 0 [(0, 2, x0), (1, 0, x1)] [] _
  refine hf_ild_n (pc := 0) 1 rfl rfl dX12_isDigit_0 ?_
  refine hf_ald_n (pc := 1) 0 rfl rfl dX12_isDigit_1 ?_
  refine hf_getf (pc := 2) fl_X12_164 dX12_isDigit_2 (fun v2 => ?_)
  refine hf_icmp_ge (pc := 5) 34 dX12_isDigit_5 rfl ?_ ?_
  · refine hf_iconst (pc := 34) dX12_isDigit_34 ?_
    exact hf_Jret (pc := 35) (r := 0) ⟨dX12_isDigit_35, Or.inl rfl⟩ (fun _ => rfl)
  · refine hf_ald_n (pc := 8) 0 rfl rfl dX12_isDigit_8 ?_
    refine hf_getf (pc := 9) fl_X12_7 dX12_isDigit_9 (fun v9 => ?_)
    refine hf_ild_n (pc := 12) 1 rfl rfl dX12_isDigit_12 ?_
    refine hf_iald (pc := 13) dX12_isDigit_13 (fun v13 => ?_)
    refine hf_bipush (pc := 14) dX12_isDigit_14 (by decide) ?_
    refine hf_icmp_lt (pc := 16) 34 dX12_isDigit_16 rfl ?_ ?_
    · refine hf_iconst (pc := 34) dX12_isDigit_34 ?_
      exact hf_Jret (pc := 35) (r := 0) ⟨dX12_isDigit_35, Or.inl rfl⟩ (fun _ => rfl)
    · refine hf_ald_n (pc := 19) 0 rfl rfl dX12_isDigit_19 ?_
      refine hf_getf (pc := 20) fl_X12_7 dX12_isDigit_20 (fun v20 => ?_)
      refine hf_ild_n (pc := 23) 1 rfl rfl dX12_isDigit_23 ?_
      refine hf_iald (pc := 24) dX12_isDigit_24 (fun v24 => ?_)
      refine hf_bipush (pc := 25) dX12_isDigit_25 (by decide) ?_
      refine hf_icmp_gt (pc := 27) 34 dX12_isDigit_27 rfl ?_ ?_
      · refine hf_iconst (pc := 34) dX12_isDigit_34 ?_
        exact hf_Jret (pc := 35) (r := 0) ⟨dX12_isDigit_35, Or.inl rfl⟩ (fun _ => rfl)
      · refine hf_iconst (pc := 30) dX12_isDigit_30 ?_
        refine hf_goto (pc := 31) 35 dX12_isDigit_31 rfl ?_
        exact hf_Jret (pc := 35) (r := 1) ⟨dX12_isDigit_35, Or.inr rfl⟩ (fun _ => rfl)
/-! HighFallModel.takeSign()V -/
def M_X12_takeSign : hf_D := (yX12_takeSign, cX12_takeSign, 4, none, 0, 0)
def f_X12_takeSign_192 (s0 s1 : Int) : hf_M Int :=
  hf_bd (hf_pf 12 16 s0 s1) (fun _ => hf_ret 0)
def f_X12_takeSign_135 (x0 x2 x3 : Int) : hf_M Int :=
  hf_bd (hf_pf 12 15 x0 4) (fun _ => hf_bd (hf_gf 12 16 x0) (fun v142 => hf_cb v142 61 (¬ v142 = 61) (hf_bd (hf_gf 12 16 x0) (fun v155 => hf_cb v155 60 (¬ v155 = 60) (hf_cz x2 (x2 = 0) (f_X12_takeSign_192 x0 5) (f_X12_takeSign_192 x0 4)) (hf_cz x2 (x2 = 0) (hf_cz x3 (x3 = 0) (f_X12_takeSign_192 x0 0) (f_X12_takeSign_192 x0 3)) (f_X12_takeSign_192 x0 1)))) (f_X12_takeSign_192 x0 2)))
def f_X12_takeSign_125 (x0 x2 x3 : Int) : hf_M Int :=
  hf_bd (hf_gf 12 14 x0) (fun v127 => hf_bd (hf_pf 12 14 x0 (v127 + 1)) (fun _ => f_X12_takeSign_135 x0 x2 x3))
def f_X12_takeSign_116 (x0 x2 s0 : Int) : hf_M Int :=
  hf_cz x2 (¬ x2 = 0) (f_X12_takeSign_125 x0 x2 s0) (hf_cz s0 (s0 = 0) (f_X12_takeSign_135 x0 x2 s0) (f_X12_takeSign_125 x0 x2 s0))
def f_X12_takeSign_95 (x0 x1 s0 : Int) : hf_M Int :=
  hf_bd (hf_gf 12 16 x0) (fun v97 => hf_cb v97 60 (¬ v97 = 60) (f_X12_takeSign_116 x0 s0 0) (hf_cb x1 62 (¬ x1 = 62) (f_X12_takeSign_116 x0 s0 0) (f_X12_takeSign_116 x0 s0 1)))
def f_X12_takeSign_74 (x0 s0 : Int) : hf_M Int :=
  hf_bd (hf_gf 12 16 x0) (fun v76 => hf_cb v76 61 (v76 = 61) (f_X12_takeSign_95 x0 s0 0) (hf_cb s0 61 (¬ s0 = 61) (f_X12_takeSign_95 x0 s0 0) (f_X12_takeSign_95 x0 s0 1)))
def f_X12_takeSign_50 (x0 : Int) : hf_M Int :=
  hf_bd (hf_gf 12 14 x0) (fun v51 => hf_bd (hf_gf 12 13 x0) (fun v55 => hf_cb v51 v55 (v55 ≤ v51) (f_X12_takeSign_74 x0 0) (hf_bd (hf_gf 12 0 x0) (fun v62 => hf_bd (hf_gf 12 14 x0) (fun v66 => hf_bd (hf_al 20 v62 v66) (fun v69 => f_X12_takeSign_74 x0 v69))))))
def f_X12_takeSign_266 (x0 s0 : Int) : hf_M Int :=
  hf_ck (hf_inI s0) (hf_bd (hf_ret (if s0 = 0 then 5 else 3)) (fun w277 => hf_bd (hf_pf 12 15 x0 w277) (fun _ => hf_ret 0)))
def f_X12_takeSign (x0 : Int) : hf_M Int :=
  hf_bd (hf_gf 12 0 x0) (fun v2 => hf_bd (hf_gf 12 14 x0) (fun v6 => hf_bd (hf_al 20 v2 v6) (fun v9 => hf_bd (hf_pf 12 16 x0 v9) (fun _ => hf_bd (hf_gf 12 14 x0) (fun v15 => hf_bd (hf_pf 12 14 x0 (v15 + 1)) (fun _ => hf_bd (hf_gf 12 16 x0) (fun v24 => hf_cb v24 60 (v24 = 60) (f_X12_takeSign_50 x0) (hf_bd (hf_gf 12 16 x0) (fun v33 => hf_cb v33 62 (v33 = 62) (f_X12_takeSign_50 x0) (hf_bd (hf_gf 12 16 x0) (fun v42 => hf_cb v42 61 (¬ v42 = 61) (hf_bd (hf_gf 12 16 x0) (fun v199 => hf_cb v199 59 (v199 = 59) (f_X12_takeSign_266 x0 1) (hf_bd (hf_gf 12 16 x0) (fun v208 => hf_cb v208 40 (v208 = 40) (f_X12_takeSign_266 x0 1) (hf_bd (hf_gf 12 16 x0) (fun v217 => hf_cb v217 41 (v217 = 41) (f_X12_takeSign_266 x0 1) (hf_bd (hf_gf 12 16 x0) (fun v226 => hf_cb v226 43 (v226 = 43) (f_X12_takeSign_266 x0 1) (hf_bd (hf_gf 12 16 x0) (fun v235 => hf_cb v235 45 (v235 = 45) (f_X12_takeSign_266 x0 1) (hf_bd (hf_gf 12 16 x0) (fun v244 => hf_cb v244 42 (v244 = 42) (f_X12_takeSign_266 x0 1) (hf_bd (hf_gf 12 16 x0) (fun v253 => hf_cb v253 47 (¬ v253 = 47) (f_X12_takeSign_266 x0 0) (f_X12_takeSign_266 x0 1))))))))))))))) (f_X12_takeSign_50 x0))))))))))))
theorem cal_X12_takeSign : hf_cv M_X12_takeSign 12 0 := ⟨⟨ii_X12, kc_X12_takeSign, by decide, by decide, by decide +kernel⟩, ki_X12_takeSign, kv_X12_takeSign, _, rfl, rfl⟩
set_option maxRecDepth 20000 in
theorem j_X12_takeSign_192 (s0 s1 : Int) : hf_J M_X12_takeSign 192 [] [(0, s1), (2, s0)] (f_X12_takeSign_192 s0 s1) := by
  refine hf_putf (pc := 192) fl_X12_180 trivial dX12_takeSign_192 ?_
  refine hf_goto (pc := 195) 280 dX12_takeSign_195 rfl ?_
  exact hf_Jret (pc := 280) dX12_takeSign_280 (fun _ => rfl)
set_option maxRecDepth 20000 in
theorem j_X12_takeSign_135 (x0 x2 x3 : Int) : hf_J M_X12_takeSign 135 [(0, 2, x0), (2, 0, x2), (3, 0, x3)] [] (f_X12_takeSign_135 x0 x2 x3) := by
  refine hf_ald_n (pc := 135) 0 rfl rfl dX12_takeSign_135 ?_
  refine hf_iconst (pc := 136) dX12_takeSign_136 ?_
  refine hf_putf (pc := 137) fl_X12_170 trivial dX12_takeSign_137 ?_
  refine hf_ald_n (pc := 140) 0 rfl rfl dX12_takeSign_140 ?_
  refine hf_ald_n (pc := 141) 0 rfl rfl dX12_takeSign_141 ?_
  refine hf_getf (pc := 142) fl_X12_180 dX12_takeSign_142 (fun v142 => ?_)
  refine hf_bipush (pc := 145) dX12_takeSign_145 (by decide) ?_
  refine hf_icmp_ne (pc := 147) 154 dX12_takeSign_147 rfl ?_ ?_
  · refine hf_ald_n (pc := 154) 0 rfl rfl dX12_takeSign_154 ?_
    refine hf_getf (pc := 155) fl_X12_180 dX12_takeSign_155 (fun v155 => ?_)
    refine hf_bipush (pc := 158) dX12_takeSign_158 (by decide) ?_
    refine hf_icmp_ne (pc := 160) 183 dX12_takeSign_160 rfl ?_ ?_
    · refine hf_ild_n (pc := 183) 1 rfl rfl dX12_takeSign_183 ?_
      refine hf_if_eq (pc := 184) 191 dX12_takeSign_184 rfl ?_ ?_
      · refine hf_iconst (pc := 191) dX12_takeSign_191 ?_
        exact hf_sub [] rfl (j_X12_takeSign_192 x0 5)
      · refine hf_iconst (pc := 187) dX12_takeSign_187 ?_
        refine hf_goto (pc := 188) 192 dX12_takeSign_188 rfl ?_
        exact hf_sub [] rfl (j_X12_takeSign_192 x0 4)
    · refine hf_ild_n (pc := 163) 1 rfl rfl dX12_takeSign_163 ?_
      refine hf_if_eq (pc := 164) 171 dX12_takeSign_164 rfl ?_ ?_
      · refine hf_ild_n (pc := 171) 2 rfl rfl dX12_takeSign_171 ?_
        refine hf_if_eq (pc := 172) 179 dX12_takeSign_172 rfl ?_ ?_
        · refine hf_iconst (pc := 179) dX12_takeSign_179 ?_
          refine hf_goto (pc := 180) 192 dX12_takeSign_180 rfl ?_
          exact hf_sub [] rfl (j_X12_takeSign_192 x0 0)
        · refine hf_iconst (pc := 175) dX12_takeSign_175 ?_
          refine hf_goto (pc := 176) 192 dX12_takeSign_176 rfl ?_
          exact hf_sub [] rfl (j_X12_takeSign_192 x0 3)
      · refine hf_iconst (pc := 167) dX12_takeSign_167 ?_
        refine hf_goto (pc := 168) 192 dX12_takeSign_168 rfl ?_
        exact hf_sub [] rfl (j_X12_takeSign_192 x0 1)
  · refine hf_iconst (pc := 150) dX12_takeSign_150 ?_
    refine hf_goto (pc := 151) 192 dX12_takeSign_151 rfl ?_
    exact hf_sub [] rfl (j_X12_takeSign_192 x0 2)
set_option maxRecDepth 20000 in
theorem j_X12_takeSign_125 (x0 x2 x3 : Int) : hf_J M_X12_takeSign 125 [(0, 2, x0), (2, 0, x2), (3, 0, x3)] [] (f_X12_takeSign_125 x0 x2 x3) := by
  refine hf_ald_n (pc := 125) 0 rfl rfl dX12_takeSign_125 ?_
  refine hf_dup (pc := 126) (by decide) dX12_takeSign_126 ?_
  refine hf_getf (pc := 127) fl_X12_167 dX12_takeSign_127 (fun v127 => ?_)
  refine hf_iconst (pc := 130) dX12_takeSign_130 ?_
  refine hf_iadd (pc := 131) dX12_takeSign_131 ?_
  refine hf_putf (pc := 132) fl_X12_167 trivial dX12_takeSign_132 ?_
  exact hf_sub [0, 1, 2] rfl (j_X12_takeSign_135 x0 x2 x3)
set_option maxRecDepth 20000 in
theorem j_X12_takeSign_116 (x0 x2 s0 : Int) : hf_J M_X12_takeSign 116 [(0, 2, x0), (2, 0, x2)] [(0, s0)] (f_X12_takeSign_116 x0 x2 s0) := by
  refine hf_ist_n (pc := 116) (lv' := [(3, 0, s0), (0, 2, x0), (2, 0, x2)]) rfl (by decide) rfl dX12_takeSign_116 ?_
  refine hf_ild_n (pc := 117) 2 rfl rfl dX12_takeSign_117 ?_
  refine hf_if_ne (pc := 118) 125 dX12_takeSign_118 rfl ?_ ?_
  · exact hf_sub [1, 2, 0] rfl (j_X12_takeSign_125 x0 x2 s0)
  · refine hf_ild_n (pc := 121) 0 rfl rfl dX12_takeSign_121 ?_
    refine hf_if_eq (pc := 122) 135 dX12_takeSign_122 rfl ?_ ?_
    · exact hf_sub [1, 2, 0] rfl (j_X12_takeSign_135 x0 x2 s0)
    · exact hf_sub [1, 2, 0] rfl (j_X12_takeSign_125 x0 x2 s0)
set_option maxRecDepth 20000 in
theorem j_X12_takeSign_95 (x0 x1 s0 : Int) : hf_J M_X12_takeSign 95 [(0, 2, x0), (1, 0, x1)] [(0, s0)] (f_X12_takeSign_95 x0 x1 s0) := by
  refine hf_ist_n (pc := 95) (lv' := [(2, 0, s0), (0, 2, x0), (1, 0, x1)]) rfl (by decide) rfl dX12_takeSign_95 ?_
  refine hf_ald_n (pc := 96) 1 rfl rfl dX12_takeSign_96 ?_
  refine hf_getf (pc := 97) fl_X12_180 dX12_takeSign_97 (fun v97 => ?_)
  refine hf_bipush (pc := 100) dX12_takeSign_100 (by decide) ?_
  refine hf_icmp_ne (pc := 102) 115 dX12_takeSign_102 rfl ?_ ?_
  · refine hf_iconst (pc := 115) dX12_takeSign_115 ?_
    exact hf_sub [1, 0] rfl (j_X12_takeSign_116 x0 s0 0)
  · refine hf_ild_n (pc := 105) 2 rfl rfl dX12_takeSign_105 ?_
    refine hf_bipush (pc := 106) dX12_takeSign_106 (by decide) ?_
    refine hf_icmp_ne (pc := 108) 115 dX12_takeSign_108 rfl ?_ ?_
    · refine hf_iconst (pc := 115) dX12_takeSign_115 ?_
      exact hf_sub [1, 0] rfl (j_X12_takeSign_116 x0 s0 0)
    · refine hf_iconst (pc := 111) dX12_takeSign_111 ?_
      refine hf_goto (pc := 112) 116 dX12_takeSign_112 rfl ?_
      exact hf_sub [1, 0] rfl (j_X12_takeSign_116 x0 s0 1)
set_option maxRecDepth 20000 in
theorem j_X12_takeSign_74 (x0 s0 : Int) : hf_J M_X12_takeSign 74 [(0, 2, x0)] [(0, s0)] (f_X12_takeSign_74 x0 s0) := by
  refine hf_ist_n (pc := 74) (lv' := [(1, 0, s0), (0, 2, x0)]) rfl (by decide) rfl dX12_takeSign_74 ?_
  refine hf_ald_n (pc := 75) 1 rfl rfl dX12_takeSign_75 ?_
  refine hf_getf (pc := 76) fl_X12_180 dX12_takeSign_76 (fun v76 => ?_)
  refine hf_bipush (pc := 79) dX12_takeSign_79 (by decide) ?_
  refine hf_icmp_eq (pc := 81) 94 dX12_takeSign_81 rfl ?_ ?_
  · refine hf_iconst (pc := 94) dX12_takeSign_94 ?_
    exact hf_sub [1, 0] rfl (j_X12_takeSign_95 x0 s0 0)
  · refine hf_ild_n (pc := 84) 0 rfl rfl dX12_takeSign_84 ?_
    refine hf_bipush (pc := 85) dX12_takeSign_85 (by decide) ?_
    refine hf_icmp_ne (pc := 87) 94 dX12_takeSign_87 rfl ?_ ?_
    · refine hf_iconst (pc := 94) dX12_takeSign_94 ?_
      exact hf_sub [1, 0] rfl (j_X12_takeSign_95 x0 s0 0)
    · refine hf_iconst (pc := 90) dX12_takeSign_90 ?_
      refine hf_goto (pc := 91) 95 dX12_takeSign_91 rfl ?_
      exact hf_sub [1, 0] rfl (j_X12_takeSign_95 x0 s0 1)
set_option maxRecDepth 20000 in
theorem j_X12_takeSign_50 (x0 : Int) : hf_J M_X12_takeSign 50 [(0, 2, x0)] [] (f_X12_takeSign_50 x0) := by
  refine hf_ald_n (pc := 50) 0 rfl rfl dX12_takeSign_50 ?_
  refine hf_getf (pc := 51) fl_X12_167 dX12_takeSign_51 (fun v51 => ?_)
  refine hf_ald_n (pc := 54) 0 rfl rfl dX12_takeSign_54 ?_
  refine hf_getf (pc := 55) fl_X12_164 dX12_takeSign_55 (fun v55 => ?_)
  refine hf_icmp_ge (pc := 58) 73 dX12_takeSign_58 rfl ?_ ?_
  · refine hf_iconst (pc := 73) dX12_takeSign_73 ?_
    exact hf_sub [0] rfl (j_X12_takeSign_74 x0 0)
  · refine hf_ald_n (pc := 61) 0 rfl rfl dX12_takeSign_61 ?_
    refine hf_getf (pc := 62) fl_X12_7 dX12_takeSign_62 (fun v62 => ?_)
    refine hf_ald_n (pc := 65) 0 rfl rfl dX12_takeSign_65 ?_
    refine hf_getf (pc := 66) fl_X12_167 dX12_takeSign_66 (fun v66 => ?_)
    refine hf_iald (pc := 69) dX12_takeSign_69 (fun v69 => ?_)
    refine hf_goto (pc := 70) 74 dX12_takeSign_70 rfl ?_
    exact hf_sub [0] rfl (j_X12_takeSign_74 x0 v69)
set_option maxRecDepth 20000 in
theorem j_X12_takeSign_266 (x0 s0 : Int) : hf_J M_X12_takeSign 266 [(0, 2, x0)] [(0, s0)] (f_X12_takeSign_266 x0 s0) := by
  refine hf_ist_n (pc := 266) (lv' := [(1, 0, s0), (0, 2, x0)]) rfl (by decide) rfl dX12_takeSign_266 ?_
  refine hf_ald_n (pc := 267) 1 rfl rfl dX12_takeSign_267 ?_
  refine hf_ild_n (pc := 268) 0 rfl rfl dX12_takeSign_268 ?_
  refine hf_Jdiz (pc := 269) (pcM := 277) (t := 0) (stM := [(2, x0)]) (fun w277 => ?_) (fun a1 a2 => ?_)
  · refine hf_putf (pc := 277) fl_X12_170 trivial dX12_takeSign_277 ?_
    exact hf_Jret (pc := 280) dX12_takeSign_280 (fun _ => rfl)
  · refine hf_if_eq (pc := 269) 276 dX12_takeSign_269 rfl ?_ ?_
    · refine hf_iconst (pc := 276) dX12_takeSign_276 ?_
      exact a1
    · refine hf_iconst (pc := 272) dX12_takeSign_272 ?_
      refine hf_goto (pc := 273) 277 dX12_takeSign_273 rfl ?_
      exact a2
set_option maxRecDepth 20000 in
theorem c_X12_takeSign (x0 : Int) : hf_Met M_X12_takeSign [2] [x0] (f_X12_takeSign x0) := by
  refine hf_met rfl (by decide) (by decide) (by decide) ?_
  show hf_J M_X12_takeSign 0 [(0, 2, x0)] [] _
  refine hf_ald_n (pc := 0) 0 rfl rfl dX12_takeSign_0 ?_
  refine hf_ald_n (pc := 1) 0 rfl rfl dX12_takeSign_1 ?_
  refine hf_getf (pc := 2) fl_X12_7 dX12_takeSign_2 (fun v2 => ?_)
  refine hf_ald_n (pc := 5) 0 rfl rfl dX12_takeSign_5 ?_
  refine hf_getf (pc := 6) fl_X12_167 dX12_takeSign_6 (fun v6 => ?_)
  refine hf_iald (pc := 9) dX12_takeSign_9 (fun v9 => ?_)
  refine hf_putf (pc := 10) fl_X12_180 trivial dX12_takeSign_10 ?_
  refine hf_ald_n (pc := 13) 0 rfl rfl dX12_takeSign_13 ?_
  refine hf_dup (pc := 14) (by decide) dX12_takeSign_14 ?_
  refine hf_getf (pc := 15) fl_X12_167 dX12_takeSign_15 (fun v15 => ?_)
  refine hf_iconst (pc := 18) dX12_takeSign_18 ?_
  refine hf_iadd (pc := 19) dX12_takeSign_19 ?_
  refine hf_putf (pc := 20) fl_X12_167 trivial dX12_takeSign_20 ?_
  refine hf_ald_n (pc := 23) 0 rfl rfl dX12_takeSign_23 ?_
  refine hf_getf (pc := 24) fl_X12_180 dX12_takeSign_24 (fun v24 => ?_)
  refine hf_bipush (pc := 27) dX12_takeSign_27 (by decide) ?_
  refine hf_icmp_eq (pc := 29) 50 dX12_takeSign_29 rfl ?_ ?_
  · exact hf_sub [0] rfl (j_X12_takeSign_50 x0)
  · refine hf_ald_n (pc := 32) 0 rfl rfl dX12_takeSign_32 ?_
    refine hf_getf (pc := 33) fl_X12_180 dX12_takeSign_33 (fun v33 => ?_)
    refine hf_bipush (pc := 36) dX12_takeSign_36 (by decide) ?_
    refine hf_icmp_eq (pc := 38) 50 dX12_takeSign_38 rfl ?_ ?_
    · exact hf_sub [0] rfl (j_X12_takeSign_50 x0)
    · refine hf_ald_n (pc := 41) 0 rfl rfl dX12_takeSign_41 ?_
      refine hf_getf (pc := 42) fl_X12_180 dX12_takeSign_42 (fun v42 => ?_)
      refine hf_bipush (pc := 45) dX12_takeSign_45 (by decide) ?_
      refine hf_icmp_ne (pc := 47) 198 dX12_takeSign_47 rfl ?_ ?_
      · refine hf_ald_n (pc := 198) 0 rfl rfl dX12_takeSign_198 ?_
        refine hf_getf (pc := 199) fl_X12_180 dX12_takeSign_199 (fun v199 => ?_)
        refine hf_bipush (pc := 202) dX12_takeSign_202 (by decide) ?_
        refine hf_icmp_eq (pc := 204) 261 dX12_takeSign_204 rfl ?_ ?_
        · refine hf_iconst (pc := 261) dX12_takeSign_261 ?_
          refine hf_goto (pc := 262) 266 dX12_takeSign_262 rfl ?_
          exact hf_sub [0] rfl (j_X12_takeSign_266 x0 1)
        · refine hf_ald_n (pc := 207) 0 rfl rfl dX12_takeSign_207 ?_
          refine hf_getf (pc := 208) fl_X12_180 dX12_takeSign_208 (fun v208 => ?_)
          refine hf_bipush (pc := 211) dX12_takeSign_211 (by decide) ?_
          refine hf_icmp_eq (pc := 213) 261 dX12_takeSign_213 rfl ?_ ?_
          · refine hf_iconst (pc := 261) dX12_takeSign_261 ?_
            refine hf_goto (pc := 262) 266 dX12_takeSign_262 rfl ?_
            exact hf_sub [0] rfl (j_X12_takeSign_266 x0 1)
          · refine hf_ald_n (pc := 216) 0 rfl rfl dX12_takeSign_216 ?_
            refine hf_getf (pc := 217) fl_X12_180 dX12_takeSign_217 (fun v217 => ?_)
            refine hf_bipush (pc := 220) dX12_takeSign_220 (by decide) ?_
            refine hf_icmp_eq (pc := 222) 261 dX12_takeSign_222 rfl ?_ ?_
            · refine hf_iconst (pc := 261) dX12_takeSign_261 ?_
              refine hf_goto (pc := 262) 266 dX12_takeSign_262 rfl ?_
              exact hf_sub [0] rfl (j_X12_takeSign_266 x0 1)
            · refine hf_ald_n (pc := 225) 0 rfl rfl dX12_takeSign_225 ?_
              refine hf_getf (pc := 226) fl_X12_180 dX12_takeSign_226 (fun v226 => ?_)
              refine hf_bipush (pc := 229) dX12_takeSign_229 (by decide) ?_
              refine hf_icmp_eq (pc := 231) 261 dX12_takeSign_231 rfl ?_ ?_
              · refine hf_iconst (pc := 261) dX12_takeSign_261 ?_
                refine hf_goto (pc := 262) 266 dX12_takeSign_262 rfl ?_
                exact hf_sub [0] rfl (j_X12_takeSign_266 x0 1)
              · refine hf_ald_n (pc := 234) 0 rfl rfl dX12_takeSign_234 ?_
                refine hf_getf (pc := 235) fl_X12_180 dX12_takeSign_235 (fun v235 => ?_)
                refine hf_bipush (pc := 238) dX12_takeSign_238 (by decide) ?_
                refine hf_icmp_eq (pc := 240) 261 dX12_takeSign_240 rfl ?_ ?_
                · refine hf_iconst (pc := 261) dX12_takeSign_261 ?_
                  refine hf_goto (pc := 262) 266 dX12_takeSign_262 rfl ?_
                  exact hf_sub [0] rfl (j_X12_takeSign_266 x0 1)
                · refine hf_ald_n (pc := 243) 0 rfl rfl dX12_takeSign_243 ?_
                  refine hf_getf (pc := 244) fl_X12_180 dX12_takeSign_244 (fun v244 => ?_)
                  refine hf_bipush (pc := 247) dX12_takeSign_247 (by decide) ?_
                  refine hf_icmp_eq (pc := 249) 261 dX12_takeSign_249 rfl ?_ ?_
                  · refine hf_iconst (pc := 261) dX12_takeSign_261 ?_
                    refine hf_goto (pc := 262) 266 dX12_takeSign_262 rfl ?_
                    exact hf_sub [0] rfl (j_X12_takeSign_266 x0 1)
                  · refine hf_ald_n (pc := 252) 0 rfl rfl dX12_takeSign_252 ?_
                    refine hf_getf (pc := 253) fl_X12_180 dX12_takeSign_253 (fun v253 => ?_)
                    refine hf_bipush (pc := 256) dX12_takeSign_256 (by decide) ?_
                    refine hf_icmp_ne (pc := 258) 265 dX12_takeSign_258 rfl ?_ ?_
                    · refine hf_iconst (pc := 265) dX12_takeSign_265 ?_
                      exact hf_sub [0] rfl (j_X12_takeSign_266 x0 0)
                    · refine hf_iconst (pc := 261) dX12_takeSign_261 ?_
                      refine hf_goto (pc := 262) 266 dX12_takeSign_262 rfl ?_
                      exact hf_sub [0] rfl (j_X12_takeSign_266 x0 1)
      · exact hf_sub [0] rfl (j_X12_takeSign_50 x0)
/-! HighFallModel.take()V -/
def M_X12_take : hf_D := (yX12_take, cX12_take, 1, none, 1, 27)
def f_X12_take_39 (rec_0 : Unit → hf_M Int) (x0 : Int) : hf_M Int :=
  hf_bd (hf_gf 12 14 x0) (fun v41 => hf_bd (hf_pf 12 14 x0 (v41 + 1)) (fun _ => rec_0 ()))
def B_X12_take_90 (x0 : Int) (rec_90 : Unit → hf_M Int) : hf_M Int :=
  hf_bd (hf_gf 12 14 x0) (fun v92 => hf_bd (hf_ob 12 x0 (f_X12_isSmall x0 v92)) (fun v95 => hf_cz v95 (v95 = 0) (hf_bd (hf_gf 12 17 x0) (fun v117 => hf_bd (hf_gf 12 14 x0) (fun v121 => hf_bd (hf_ob 12 x0 (f_X12_wordAt x0 v117 v121)) (fun v124 => hf_bd (hf_pf 12 16 x0 v124) (fun _ => hf_bd (hf_gf 12 16 x0) (fun v132 => hf_ck (hf_inI v132) (hf_bd (hf_ret (if v132 < 0 then 5 else 1)) (fun w143 => hf_bd (hf_pf 12 15 x0 w143) (fun _ => hf_ret 0))))))))) (hf_bd (hf_gf 12 14 x0) (fun v103 => hf_bd (hf_pf 12 14 x0 (v103 + 1)) (fun _ => rec_90 ())))))
def f_X12_take_90 (x0 : Int) : hf_M Int := hf_fx (fun rec s => B_X12_take_90 x0 rec) hf_N ()
def f_X12_take_219 (rec_170 : Unit → hf_M Int) (x0 s0 s1 : Int) : hf_M Int :=
  hf_bd (hf_pf 12 16 s0 s1) (fun _ => hf_bd (hf_gf 12 14 x0) (fun v224 => hf_bd (hf_pf 12 14 x0 (v224 + 1)) (fun _ => rec_170 ())))
def B_X12_take_170 (x0 : Int) (rec_170 : Unit → hf_M Int) : hf_M Int :=
  hf_bd (hf_gf 12 14 x0) (fun v172 => hf_bd (hf_ob 12 x0 (f_X12_isDigit x0 v172)) (fun v175 => hf_cz v175 (v175 = 0) (hf_ret 0) (hf_bd (hf_gf 12 16 x0) (fun v183 => hf_cb v183 999 (v183 ≤ 999) (hf_bd (hf_gf 12 16 x0) (fun v202 => hf_bd (hf_gf 12 0 x0) (fun v207 => hf_bd (hf_gf 12 14 x0) (fun v211 => hf_bd (hf_al 20 v207 v211) (fun v214 => f_X12_take_219 rec_170 x0 x0 (((10 * v202) + v214) - 48)))))) (hf_bd (hf_gf 12 16 x0) (fun v193 => f_X12_take_219 rec_170 x0 x0 v193))))))
def f_X12_take_170 (x0 : Int) : hf_M Int := hf_fx (fun rec s => B_X12_take_170 x0 rec) hf_N ()
def f_X12_take_52 (x0 : Int) : hf_M Int :=
  hf_bd (hf_gf 12 14 x0) (fun v54 => hf_bd (hf_pf 12 17 x0 v54) (fun _ => hf_bd (hf_gf 12 14 x0) (fun v61 => hf_bd (hf_gf 12 13 x0) (fun v65 => hf_cb v61 v65 (¬ v61 = v65) (hf_bd (hf_gf 12 14 x0) (fun v81 => hf_bd (hf_ob 12 x0 (f_X12_isSmall x0 v81)) (fun v84 => hf_cz v84 (v84 = 0) (hf_bd (hf_gf 12 14 x0) (fun v151 => hf_bd (hf_ob 12 x0 (f_X12_isDigit x0 v151)) (fun v154 => hf_cz v154 (v154 = 0) (hf_bd (hf_ob 12 x0 (f_X12_takeSign x0)) (fun _ => hf_ret 0)) (hf_bd (hf_pf 12 15 x0 2) (fun _ => hf_bd (hf_pf 12 16 x0 0) (fun _ => f_X12_take_170 x0)))))) (f_X12_take_90 x0)))) (hf_bd (hf_pf 12 15 x0 0) (fun _ => hf_ret 0))))))
def B_X12_take_0 (x0 : Int) (rec_0 : Unit → hf_M Int) : hf_M Int :=
  hf_bd (hf_gf 12 14 x0) (fun v1 => hf_bd (hf_gf 12 13 x0) (fun v5 => hf_cb v1 v5 (v5 ≤ v1) (f_X12_take_52 x0) (hf_bd (hf_gf 12 0 x0) (fun v12 => hf_bd (hf_gf 12 14 x0) (fun v16 => hf_bd (hf_al 20 v12 v16) (fun v19 => hf_cb v19 10 (v19 = 10) (f_X12_take_39 rec_0 x0) (hf_bd (hf_gf 12 0 x0) (fun v26 => hf_bd (hf_gf 12 14 x0) (fun v30 => hf_bd (hf_al 20 v26 v30) (fun v33 => hf_cb v33 32 (¬ v33 = 32) (f_X12_take_52 x0) (f_X12_take_39 rec_0 x0)))))))))))
def f_X12_take_0 (x0 : Int) : hf_M Int := hf_fx (fun rec s => B_X12_take_0 x0 rec) hf_N ()
def f_X12_take (x0 : Int) : hf_M Int :=
  f_X12_take_0 x0
theorem cal_X12_take : hf_cv M_X12_take 12 0 := ⟨⟨ii_X12, kc_X12_take, by decide, by decide, by decide +kernel⟩, ki_X12_take, kv_X12_take, _, rfl, rfl⟩
set_option maxRecDepth 20000 in
theorem j_X12_take_39 (x0 : Int) (rec_0 : Unit → hf_M Int) (hrec_0 : ∀ s : Unit, hf_J M_X12_take 0 [(0, 2, x0)] [] (rec_0 s)) : hf_J M_X12_take 39 [(0, 2, x0)] [] (f_X12_take_39 rec_0 x0) := by
  refine hf_ald_n (pc := 39) 0 rfl rfl dX12_take_39 ?_
  refine hf_dup (pc := 40) (by decide) dX12_take_40 ?_
  refine hf_getf (pc := 41) fl_X12_167 dX12_take_41 (fun v41 => ?_)
  refine hf_iconst (pc := 44) dX12_take_44 ?_
  refine hf_iadd (pc := 45) dX12_take_45 ?_
  refine hf_putf (pc := 46) fl_X12_167 trivial dX12_take_46 ?_
  refine hf_goto (pc := 49) 0 dX12_take_49 rfl ?_
  exact hf_sub [0] rfl (hrec_0 ())
set_option maxRecDepth 20000 in
theorem jb_X12_take_90 (x0 : Int) (rec_90 : Unit → hf_M Int) (hrec_90 : ∀ s : Unit, hf_J M_X12_take 90 [(0, 2, x0)] [] (rec_90 s)) : hf_J M_X12_take 90 [(0, 2, x0)] [] (B_X12_take_90 x0 rec_90) := by
  refine hf_ald_n (pc := 90) 0 rfl rfl dX12_take_90 ?_
  refine hf_ald_n (pc := 91) 0 rfl rfl dX12_take_91 ?_
  refine hf_getf (pc := 92) fl_X12_167 dX12_take_92 (fun v92 => ?_)
  refine hf_cV (pc := 95) (N := M_X12_isSmall) (ts := [0]) (vs := [v92]) (st := []) (fun r => [(0, r)]) (c_X12_isSmall x0 v92) cal_X12_isSmall ml_X12_173 ⟨hf_le rfl, hf_le rfl⟩ (hf_le rfl) ⟨rfl, rfl⟩ rfl dX12_take_95 (fun _ => rfl) (fun v95 => ?_)
  refine hf_if_eq (pc := 98) 114 dX12_take_98 rfl ?_ ?_
  · refine hf_ald_n (pc := 114) 0 rfl rfl dX12_take_114 ?_
    refine hf_ald_n (pc := 115) 0 rfl rfl dX12_take_115 ?_
    refine hf_ald_n (pc := 116) 0 rfl rfl dX12_take_116 ?_
    refine hf_getf (pc := 117) fl_X12_161 dX12_take_117 (fun v117 => ?_)
    refine hf_ald_n (pc := 120) 0 rfl rfl dX12_take_120 ?_
    refine hf_getf (pc := 121) fl_X12_167 dX12_take_121 (fun v121 => ?_)
    refine hf_cV (pc := 124) (N := M_X12_wordAt) (ts := [0, 0]) (vs := [v117, v121]) (st := [(2, x0)]) (fun r => [(0, r), (2, x0)]) (c_X12_wordAt x0 v117 v121) cal_X12_wordAt ml_X12_176 ⟨hf_le rfl, hf_le rfl⟩ (hf_le rfl) ⟨rfl, rfl⟩ rfl dX12_take_124 (fun _ => rfl) (fun v124 => ?_)
    refine hf_putf (pc := 127) fl_X12_180 trivial dX12_take_127 ?_
    refine hf_ald_n (pc := 130) 0 rfl rfl dX12_take_130 ?_
    refine hf_ald_n (pc := 131) 0 rfl rfl dX12_take_131 ?_
    refine hf_getf (pc := 132) fl_X12_180 dX12_take_132 (fun v132 => ?_)
    refine hf_Jdiz (pc := 135) (pcM := 143) (t := 0) (stM := [(2, x0)]) (fun w143 => ?_) (fun a1 a2 => ?_)
    · refine hf_putf (pc := 143) fl_X12_170 trivial dX12_take_143 ?_
      refine hf_goto (pc := 146) 239 dX12_take_146 rfl ?_
      exact hf_Jret (pc := 239) dX12_take_239 (fun _ => rfl)
    · refine hf_if_lt (pc := 135) 142 dX12_take_135 rfl ?_ ?_
      · refine hf_iconst (pc := 142) dX12_take_142 ?_
        exact a1
      · refine hf_iconst (pc := 138) dX12_take_138 ?_
        refine hf_goto (pc := 139) 143 dX12_take_139 rfl ?_
        exact a2
  · refine hf_ald_n (pc := 101) 0 rfl rfl dX12_take_101 ?_
    refine hf_dup (pc := 102) (by decide) dX12_take_102 ?_
    refine hf_getf (pc := 103) fl_X12_167 dX12_take_103 (fun v103 => ?_)
    refine hf_iconst (pc := 106) dX12_take_106 ?_
    refine hf_iadd (pc := 107) dX12_take_107 ?_
    refine hf_putf (pc := 108) fl_X12_167 trivial dX12_take_108 ?_
    refine hf_goto (pc := 111) 90 dX12_take_111 rfl ?_
    exact hf_sub [0] rfl (hrec_90 ())
set_option maxRecDepth 20000 in
theorem j_X12_take_90 (x0 : Int) : hf_J M_X12_take 90 [(0, 2, x0)] [] (f_X12_take_90 x0) :=
  hf_Jfx (L := fun s => [(0, 2, x0)]) (fun rec hrec s => jb_X12_take_90 x0 rec hrec) hf_N ()
set_option maxRecDepth 20000 in
theorem j_X12_take_219 (x0 s0 s1 : Int) (rec_170 : Unit → hf_M Int) (hrec_170 : ∀ s : Unit, hf_J M_X12_take 170 [(0, 2, x0)] [] (rec_170 s)) : hf_J M_X12_take 219 [(0, 2, x0)] [(0, s1), (2, s0)] (f_X12_take_219 rec_170 x0 s0 s1) := by
  refine hf_putf (pc := 219) fl_X12_180 trivial dX12_take_219 ?_
  refine hf_ald_n (pc := 222) 0 rfl rfl dX12_take_222 ?_
  refine hf_dup (pc := 223) (by decide) dX12_take_223 ?_
  refine hf_getf (pc := 224) fl_X12_167 dX12_take_224 (fun v224 => ?_)
  refine hf_iconst (pc := 227) dX12_take_227 ?_
  refine hf_iadd (pc := 228) dX12_take_228 ?_
  refine hf_putf (pc := 229) fl_X12_167 trivial dX12_take_229 ?_
  refine hf_goto (pc := 232) 170 dX12_take_232 rfl ?_
  exact hf_sub [0] rfl (hrec_170 ())
set_option maxRecDepth 20000 in
theorem jb_X12_take_170 (x0 : Int) (rec_170 : Unit → hf_M Int) (hrec_170 : ∀ s : Unit, hf_J M_X12_take 170 [(0, 2, x0)] [] (rec_170 s)) : hf_J M_X12_take 170 [(0, 2, x0)] [] (B_X12_take_170 x0 rec_170) := by
  refine hf_ald_n (pc := 170) 0 rfl rfl dX12_take_170 ?_
  refine hf_ald_n (pc := 171) 0 rfl rfl dX12_take_171 ?_
  refine hf_getf (pc := 172) fl_X12_167 dX12_take_172 (fun v172 => ?_)
  refine hf_cV (pc := 175) (N := M_X12_isDigit) (ts := [0]) (vs := [v172]) (st := []) (fun r => [(0, r)]) (c_X12_isDigit x0 v172) cal_X12_isDigit ml_X12_183 ⟨hf_le rfl, hf_le rfl⟩ (hf_le rfl) ⟨rfl, rfl⟩ rfl dX12_take_175 (fun _ => rfl) (fun v175 => ?_)
  refine hf_if_eq (pc := 178) 239 dX12_take_178 rfl ?_ ?_
  · exact hf_Jret (pc := 239) dX12_take_239 (fun _ => rfl)
  · refine hf_ald_n (pc := 181) 0 rfl rfl dX12_take_181 ?_
    refine hf_ald_n (pc := 182) 0 rfl rfl dX12_take_182 ?_
    refine hf_getf (pc := 183) fl_X12_180 dX12_take_183 (fun v183 => ?_)
    refine hf_sipush (pc := 186) dX12_take_186 (by decide) ?_
    refine hf_icmp_le (pc := 189) 199 dX12_take_189 rfl ?_ ?_
    · refine hf_bipush (pc := 199) dX12_take_199 (by decide) ?_
      refine hf_ald_n (pc := 201) 0 rfl rfl dX12_take_201 ?_
      refine hf_getf (pc := 202) fl_X12_180 dX12_take_202 (fun v202 => ?_)
      refine hf_imul (pc := 205) dX12_take_205 ?_
      refine hf_ald_n (pc := 206) 0 rfl rfl dX12_take_206 ?_
      refine hf_getf (pc := 207) fl_X12_7 dX12_take_207 (fun v207 => ?_)
      refine hf_ald_n (pc := 210) 0 rfl rfl dX12_take_210 ?_
      refine hf_getf (pc := 211) fl_X12_167 dX12_take_211 (fun v211 => ?_)
      refine hf_iald (pc := 214) dX12_take_214 (fun v214 => ?_)
      refine hf_iadd (pc := 215) dX12_take_215 ?_
      refine hf_bipush (pc := 216) dX12_take_216 (by decide) ?_
      refine hf_isub (pc := 218) dX12_take_218 ?_
      exact hf_sub [0] rfl (j_X12_take_219 x0 x0 (((10 * v202) + v214) - 48) rec_170 hrec_170)
    · refine hf_ald_n (pc := 192) 0 rfl rfl dX12_take_192 ?_
      refine hf_getf (pc := 193) fl_X12_180 dX12_take_193 (fun v193 => ?_)
      refine hf_goto (pc := 196) 219 dX12_take_196 rfl ?_
      exact hf_sub [0] rfl (j_X12_take_219 x0 x0 v193 rec_170 hrec_170)
set_option maxRecDepth 20000 in
theorem j_X12_take_170 (x0 : Int) : hf_J M_X12_take 170 [(0, 2, x0)] [] (f_X12_take_170 x0) :=
  hf_Jfx (L := fun s => [(0, 2, x0)]) (fun rec hrec s => jb_X12_take_170 x0 rec hrec) hf_N ()
set_option maxRecDepth 20000 in
theorem j_X12_take_52 (x0 : Int) : hf_J M_X12_take 52 [(0, 2, x0)] [] (f_X12_take_52 x0) := by
  refine hf_ald_n (pc := 52) 0 rfl rfl dX12_take_52 ?_
  refine hf_ald_n (pc := 53) 0 rfl rfl dX12_take_53 ?_
  refine hf_getf (pc := 54) fl_X12_167 dX12_take_54 (fun v54 => ?_)
  refine hf_putf (pc := 57) fl_X12_161 trivial dX12_take_57 ?_
  refine hf_ald_n (pc := 60) 0 rfl rfl dX12_take_60 ?_
  refine hf_getf (pc := 61) fl_X12_167 dX12_take_61 (fun v61 => ?_)
  refine hf_ald_n (pc := 64) 0 rfl rfl dX12_take_64 ?_
  refine hf_getf (pc := 65) fl_X12_164 dX12_take_65 (fun v65 => ?_)
  refine hf_icmp_ne (pc := 68) 79 dX12_take_68 rfl ?_ ?_
  · refine hf_ald_n (pc := 79) 0 rfl rfl dX12_take_79 ?_
    refine hf_ald_n (pc := 80) 0 rfl rfl dX12_take_80 ?_
    refine hf_getf (pc := 81) fl_X12_167 dX12_take_81 (fun v81 => ?_)
    refine hf_cV (pc := 84) (N := M_X12_isSmall) (ts := [0]) (vs := [v81]) (st := []) (fun r => [(0, r)]) (c_X12_isSmall x0 v81) cal_X12_isSmall ml_X12_173 ⟨hf_le rfl, hf_le rfl⟩ (hf_le rfl) ⟨rfl, rfl⟩ rfl dX12_take_84 (fun _ => rfl) (fun v84 => ?_)
    refine hf_if_eq (pc := 87) 149 dX12_take_87 rfl ?_ ?_
    · refine hf_ald_n (pc := 149) 0 rfl rfl dX12_take_149 ?_
      refine hf_ald_n (pc := 150) 0 rfl rfl dX12_take_150 ?_
      refine hf_getf (pc := 151) fl_X12_167 dX12_take_151 (fun v151 => ?_)
      refine hf_cV (pc := 154) (N := M_X12_isDigit) (ts := [0]) (vs := [v151]) (st := []) (fun r => [(0, r)]) (c_X12_isDigit x0 v151) cal_X12_isDigit ml_X12_183 ⟨hf_le rfl, hf_le rfl⟩ (hf_le rfl) ⟨rfl, rfl⟩ rfl dX12_take_154 (fun _ => rfl) (fun v154 => ?_)
      refine hf_if_eq (pc := 157) 235 dX12_take_157 rfl ?_ ?_
      · refine hf_ald_n (pc := 235) 0 rfl rfl dX12_take_235 ?_
        refine hf_cV (pc := 236) (N := M_X12_takeSign) (ts := []) (vs := []) (st := []) (fun r => []) (c_X12_takeSign x0) cal_X12_takeSign ml_X12_186 ⟨hf_le rfl, hf_le rfl⟩ (hf_le rfl) ⟨rfl, rfl⟩ rfl dX12_take_236 (fun _ => rfl) (fun _ => ?_)
        exact hf_Jret (pc := 239) dX12_take_239 (fun _ => rfl)
      · refine hf_ald_n (pc := 160) 0 rfl rfl dX12_take_160 ?_
        refine hf_iconst (pc := 161) dX12_take_161 ?_
        refine hf_putf (pc := 162) fl_X12_170 trivial dX12_take_162 ?_
        refine hf_ald_n (pc := 165) 0 rfl rfl dX12_take_165 ?_
        refine hf_iconst (pc := 166) dX12_take_166 ?_
        refine hf_putf (pc := 167) fl_X12_180 trivial dX12_take_167 ?_
        exact hf_sub [0] rfl (j_X12_take_170 x0)
    · exact hf_sub [0] rfl (j_X12_take_90 x0)
  · refine hf_ald_n (pc := 71) 0 rfl rfl dX12_take_71 ?_
    refine hf_iconst (pc := 72) dX12_take_72 ?_
    refine hf_putf (pc := 73) fl_X12_170 trivial dX12_take_73 ?_
    refine hf_goto (pc := 76) 239 dX12_take_76 rfl ?_
    exact hf_Jret (pc := 239) dX12_take_239 (fun _ => rfl)
set_option maxRecDepth 20000 in
theorem jb_X12_take_0 (x0 : Int) (rec_0 : Unit → hf_M Int) (hrec_0 : ∀ s : Unit, hf_J M_X12_take 0 [(0, 2, x0)] [] (rec_0 s)) : hf_J M_X12_take 0 [(0, 2, x0)] [] (B_X12_take_0 x0 rec_0) := by
  refine hf_ald_n (pc := 0) 0 rfl rfl dX12_take_0 ?_
  refine hf_getf (pc := 1) fl_X12_167 dX12_take_1 (fun v1 => ?_)
  refine hf_ald_n (pc := 4) 0 rfl rfl dX12_take_4 ?_
  refine hf_getf (pc := 5) fl_X12_164 dX12_take_5 (fun v5 => ?_)
  refine hf_icmp_ge (pc := 8) 52 dX12_take_8 rfl ?_ ?_
  · exact hf_sub [0] rfl (j_X12_take_52 x0)
  · refine hf_ald_n (pc := 11) 0 rfl rfl dX12_take_11 ?_
    refine hf_getf (pc := 12) fl_X12_7 dX12_take_12 (fun v12 => ?_)
    refine hf_ald_n (pc := 15) 0 rfl rfl dX12_take_15 ?_
    refine hf_getf (pc := 16) fl_X12_167 dX12_take_16 (fun v16 => ?_)
    refine hf_iald (pc := 19) dX12_take_19 (fun v19 => ?_)
    refine hf_bipush (pc := 20) dX12_take_20 (by decide) ?_
    refine hf_icmp_eq (pc := 22) 39 dX12_take_22 rfl ?_ ?_
    · exact hf_sub [0] rfl (j_X12_take_39 x0 rec_0 hrec_0)
    · refine hf_ald_n (pc := 25) 0 rfl rfl dX12_take_25 ?_
      refine hf_getf (pc := 26) fl_X12_7 dX12_take_26 (fun v26 => ?_)
      refine hf_ald_n (pc := 29) 0 rfl rfl dX12_take_29 ?_
      refine hf_getf (pc := 30) fl_X12_167 dX12_take_30 (fun v30 => ?_)
      refine hf_iald (pc := 33) dX12_take_33 (fun v33 => ?_)
      refine hf_bipush (pc := 34) dX12_take_34 (by decide) ?_
      refine hf_icmp_ne (pc := 36) 52 dX12_take_36 rfl ?_ ?_
      · exact hf_sub [0] rfl (j_X12_take_52 x0)
      · exact hf_sub [0] rfl (j_X12_take_39 x0 rec_0 hrec_0)
set_option maxRecDepth 20000 in
theorem j_X12_take_0 (x0 : Int) : hf_J M_X12_take 0 [(0, 2, x0)] [] (f_X12_take_0 x0) :=
  hf_Jfx (L := fun s => [(0, 2, x0)]) (fun rec hrec s => jb_X12_take_0 x0 rec hrec) hf_N ()
set_option maxRecDepth 20000 in
theorem c_X12_take (x0 : Int) : hf_Met M_X12_take [2] [x0] (f_X12_take x0) := by
  refine hf_met rfl (by decide) (by decide) (by decide) ?_
  show hf_J M_X12_take 0 [(0, 2, x0)] [] _
  exact hf_sub [0] rfl (j_X12_take_0 x0)
/-! HighFallModel.isKey(I)Z -/
def M_X12_isKey : hf_D := (yX12_isKey, cX12_isKey, 2, some .boolean, 0, 0)
def f_X12_isKey (x0 x1 : Int) : hf_M Int :=
  hf_bd (hf_gf 12 15 x0) (fun v1 => hf_cb v1 1 (¬ v1 = 1) (hf_ret 0) (hf_bd (hf_gf 12 16 x0) (fun v9 => hf_cb v9 x1 (¬ v9 = x1) (hf_ret 0) (hf_ret 1))))
theorem cal_X12_isKey : hf_cv M_X12_isKey 12 1 := ⟨⟨ii_X12, kc_X12_isKey, by decide, by decide, by decide +kernel⟩, ki_X12_isKey, kv_X12_isKey, _, rfl, rfl⟩
set_option maxRecDepth 20000 in
theorem c_X12_isKey (x0 x1 : Int) : hf_Met M_X12_isKey [2, 0] [x0, x1] (f_X12_isKey x0 x1) := by
  refine hf_met rfl (by decide) (by decide) (by decide) ?_
  show hf_J M_X12_isKey 0 [(0, 2, x0), (1, 0, x1)] [] _
  refine hf_ald_n (pc := 0) 0 rfl rfl dX12_isKey_0 ?_
  refine hf_getf (pc := 1) fl_X12_170 dX12_isKey_1 (fun v1 => ?_)
  refine hf_iconst (pc := 4) dX12_isKey_4 ?_
  refine hf_icmp_ne (pc := 5) 20 dX12_isKey_5 rfl ?_ ?_
  · refine hf_iconst (pc := 20) dX12_isKey_20 ?_
    exact hf_Jret (pc := 21) (r := 0) ⟨dX12_isKey_21, Or.inl rfl⟩ (fun _ => rfl)
  · refine hf_ald_n (pc := 8) 0 rfl rfl dX12_isKey_8 ?_
    refine hf_getf (pc := 9) fl_X12_180 dX12_isKey_9 (fun v9 => ?_)
    refine hf_ild_n (pc := 12) 1 rfl rfl dX12_isKey_12 ?_
    refine hf_icmp_ne (pc := 13) 20 dX12_isKey_13 rfl ?_ ?_
    · refine hf_iconst (pc := 20) dX12_isKey_20 ?_
      exact hf_Jret (pc := 21) (r := 0) ⟨dX12_isKey_21, Or.inl rfl⟩ (fun _ => rfl)
    · refine hf_iconst (pc := 16) dX12_isKey_16 ?_
      refine hf_goto (pc := 17) 21 dX12_isKey_17 rfl ?_
      exact hf_Jret (pc := 21) (r := 1) ⟨dX12_isKey_21, Or.inr rfl⟩ (fun _ => rfl)
/-! HighFallModel.wrong(I)Z -/
def M_X12_wrong : hf_D := (yX12_wrong, cX12_wrong, 2, some .boolean, 0, 0)
def f_X12_wrong (x0 x1 : Int) : hf_M Int :=
  hf_bd (hf_pf 12 11 x0 x1) (fun _ => hf_bd (hf_gf 12 17 x0) (fun v7 => hf_bd (hf_pf 12 12 x0 v7) (fun _ => hf_ret 0)))
theorem cal_X12_wrong : hf_cv M_X12_wrong 12 1 := ⟨⟨ii_X12, kc_X12_wrong, by decide, by decide, by decide +kernel⟩, ki_X12_wrong, kv_X12_wrong, _, rfl, rfl⟩
set_option maxRecDepth 20000 in
theorem c_X12_wrong (x0 x1 : Int) : hf_Met M_X12_wrong [2, 0] [x0, x1] (f_X12_wrong x0 x1) := by
  refine hf_met rfl (by decide) (by decide) (by decide) ?_
  show hf_J M_X12_wrong 0 [(0, 2, x0), (1, 0, x1)] [] _
  refine hf_ald_n (pc := 0) 0 rfl rfl dX12_wrong_0 ?_
  refine hf_ild_n (pc := 1) 1 rfl rfl dX12_wrong_1 ?_
  refine hf_putf (pc := 2) fl_X12_158 trivial dX12_wrong_2 ?_
  refine hf_ald_n (pc := 5) 0 rfl rfl dX12_wrong_5 ?_
  refine hf_ald_n (pc := 6) 0 rfl rfl dX12_wrong_6 ?_
  refine hf_getf (pc := 7) fl_X12_161 dX12_wrong_7 (fun v7 => ?_)
  refine hf_putf (pc := 10) fl_X12_35 trivial dX12_wrong_10 ?_
  refine hf_iconst (pc := 13) dX12_wrong_13 ?_
  exact hf_Jret (pc := 14) (r := 0) ⟨dX12_wrong_14, Or.inl rfl⟩ (fun _ => rfl)
/-! HighFallModel.isSign(I)Z -/
def M_X12_isSign : hf_D := (yX12_isSign, cX12_isSign, 2, some .boolean, 0, 0)
def f_X12_isSign (x0 x1 : Int) : hf_M Int :=
  hf_bd (hf_gf 12 15 x0) (fun v1 => hf_cb v1 3 (¬ v1 = 3) (hf_ret 0) (hf_bd (hf_gf 12 16 x0) (fun v9 => hf_cb v9 x1 (¬ v9 = x1) (hf_ret 0) (hf_ret 1))))
theorem cal_X12_isSign : hf_cv M_X12_isSign 12 1 := ⟨⟨ii_X12, kc_X12_isSign, by decide, by decide, by decide +kernel⟩, ki_X12_isSign, kv_X12_isSign, _, rfl, rfl⟩
set_option maxRecDepth 20000 in
theorem c_X12_isSign (x0 x1 : Int) : hf_Met M_X12_isSign [2, 0] [x0, x1] (f_X12_isSign x0 x1) := by
  refine hf_met rfl (by decide) (by decide) (by decide) ?_
  show hf_J M_X12_isSign 0 [(0, 2, x0), (1, 0, x1)] [] _
  refine hf_ald_n (pc := 0) 0 rfl rfl dX12_isSign_0 ?_
  refine hf_getf (pc := 1) fl_X12_170 dX12_isSign_1 (fun v1 => ?_)
  refine hf_iconst (pc := 4) dX12_isSign_4 ?_
  refine hf_icmp_ne (pc := 5) 20 dX12_isSign_5 rfl ?_ ?_
  · refine hf_iconst (pc := 20) dX12_isSign_20 ?_
    exact hf_Jret (pc := 21) (r := 0) ⟨dX12_isSign_21, Or.inl rfl⟩ (fun _ => rfl)
  · refine hf_ald_n (pc := 8) 0 rfl rfl dX12_isSign_8 ?_
    refine hf_getf (pc := 9) fl_X12_180 dX12_isSign_9 (fun v9 => ?_)
    refine hf_ild_n (pc := 12) 1 rfl rfl dX12_isSign_12 ?_
    refine hf_icmp_ne (pc := 13) 20 dX12_isSign_13 rfl ?_ ?_
    · refine hf_iconst (pc := 20) dX12_isSign_20 ?_
      exact hf_Jret (pc := 21) (r := 0) ⟨dX12_isSign_21, Or.inl rfl⟩ (fun _ => rfl)
    · refine hf_iconst (pc := 16) dX12_isSign_16 ?_
      refine hf_goto (pc := 17) 21 dX12_isSign_17 rfl ?_
      exact hf_Jret (pc := 21) (r := 1) ⟨dX12_isSign_21, Or.inr rfl⟩ (fun _ => rfl)
/-! HighFallModel.signMet()I -/
def M_X12_signMet : hf_D := (yX12_signMet, cX12_signMet, 1, some .int, 1, 21)
def f_X12_signMet (x0 : Int) : hf_M Int :=
  hf_bd (hf_ob 12 x0 (f_X12_isKey x0 3)) (fun v2 => hf_cz v2 (v2 = 0) (hf_bd (hf_ob 12 x0 (f_X12_isKey x0 4)) (fun v14 => hf_cz v14 (v14 = 0) (hf_bd (hf_gf 12 15 x0) (fun v25 => hf_cb v25 4 (¬ v25 = 4) (hf_bd (hf_ob 12 x0 (f_X12_isSign x0 43)) (fun v44 => hf_cz v44 (v44 = 0) (hf_bd (hf_ob 12 x0 (f_X12_isSign x0 45)) (fun v58 => hf_cz v58 (v58 = 0) (hf_bd (hf_ob 12 x0 (f_X12_isSign x0 42)) (fun v72 => hf_cz v72 (v72 = 0) (hf_bd (hf_ob 12 x0 (f_X12_isSign x0 47)) (fun v86 => hf_cz v86 (v86 = 0) (hf_ret 0) (hf_ret 14))) (hf_ret 13))) (hf_ret 12))) (hf_ret 11))) (hf_bd (hf_gf 12 16 x0) (fun v34 => hf_ret (5 + v34))))) (hf_ret 4))) (hf_ret 3))
theorem cal_X12_signMet : hf_cv M_X12_signMet 12 0 := ⟨⟨ii_X12, kc_X12_signMet, by decide, by decide, by decide +kernel⟩, ki_X12_signMet, kv_X12_signMet, _, rfl, rfl⟩
set_option maxRecDepth 20000 in
theorem c_X12_signMet (x0 : Int) : hf_Met M_X12_signMet [2] [x0] (f_X12_signMet x0) := by
  refine hf_met rfl (by decide) (by decide) (by decide) ?_
  show hf_J M_X12_signMet 0 [(0, 2, x0)] [] _
  refine hf_ald_n (pc := 0) 0 rfl rfl dX12_signMet_0 ?_
  refine hf_iconst (pc := 1) dX12_signMet_1 ?_
  refine hf_cV (pc := 2) (N := M_X12_isKey) (ts := [0]) (vs := [3]) (st := []) (fun r => [(0, r)]) (c_X12_isKey x0 3) cal_X12_isKey ml_X12_231 ⟨hf_le rfl, hf_le rfl⟩ (hf_le rfl) ⟨rfl, rfl⟩ rfl dX12_signMet_2 (fun _ => rfl) (fun v2 => ?_)
  refine hf_if_eq (pc := 5) 12 dX12_signMet_5 rfl ?_ ?_
  · refine hf_ald_n (pc := 12) 0 rfl rfl dX12_signMet_12 ?_
    refine hf_iconst (pc := 13) dX12_signMet_13 ?_
    refine hf_cV (pc := 14) (N := M_X12_isKey) (ts := [0]) (vs := [4]) (st := []) (fun r => [(0, r)]) (c_X12_isKey x0 4) cal_X12_isKey ml_X12_231 ⟨hf_le rfl, hf_le rfl⟩ (hf_le rfl) ⟨rfl, rfl⟩ rfl dX12_signMet_14 (fun _ => rfl) (fun v14 => ?_)
    refine hf_if_eq (pc := 17) 24 dX12_signMet_17 rfl ?_ ?_
    · refine hf_ald_n (pc := 24) 0 rfl rfl dX12_signMet_24 ?_
      refine hf_getf (pc := 25) fl_X12_170 dX12_signMet_25 (fun v25 => ?_)
      refine hf_iconst (pc := 28) dX12_signMet_28 ?_
      refine hf_icmp_ne (pc := 29) 41 dX12_signMet_29 rfl ?_ ?_
      · refine hf_ald_n (pc := 41) 0 rfl rfl dX12_signMet_41 ?_
        refine hf_bipush (pc := 42) dX12_signMet_42 (by decide) ?_
        refine hf_cV (pc := 44) (N := M_X12_isSign) (ts := [0]) (vs := [43]) (st := []) (fun r => [(0, r)]) (c_X12_isSign x0 43) cal_X12_isSign ml_X12_215 ⟨hf_le rfl, hf_le rfl⟩ (hf_le rfl) ⟨rfl, rfl⟩ rfl dX12_signMet_44 (fun _ => rfl) (fun v44 => ?_)
        refine hf_if_eq (pc := 47) 55 dX12_signMet_47 rfl ?_ ?_
        · refine hf_ald_n (pc := 55) 0 rfl rfl dX12_signMet_55 ?_
          refine hf_bipush (pc := 56) dX12_signMet_56 (by decide) ?_
          refine hf_cV (pc := 58) (N := M_X12_isSign) (ts := [0]) (vs := [45]) (st := []) (fun r => [(0, r)]) (c_X12_isSign x0 45) cal_X12_isSign ml_X12_215 ⟨hf_le rfl, hf_le rfl⟩ (hf_le rfl) ⟨rfl, rfl⟩ rfl dX12_signMet_58 (fun _ => rfl) (fun v58 => ?_)
          refine hf_if_eq (pc := 61) 69 dX12_signMet_61 rfl ?_ ?_
          · refine hf_ald_n (pc := 69) 0 rfl rfl dX12_signMet_69 ?_
            refine hf_bipush (pc := 70) dX12_signMet_70 (by decide) ?_
            refine hf_cV (pc := 72) (N := M_X12_isSign) (ts := [0]) (vs := [42]) (st := []) (fun r => [(0, r)]) (c_X12_isSign x0 42) cal_X12_isSign ml_X12_215 ⟨hf_le rfl, hf_le rfl⟩ (hf_le rfl) ⟨rfl, rfl⟩ rfl dX12_signMet_72 (fun _ => rfl) (fun v72 => ?_)
            refine hf_if_eq (pc := 75) 83 dX12_signMet_75 rfl ?_ ?_
            · refine hf_ald_n (pc := 83) 0 rfl rfl dX12_signMet_83 ?_
              refine hf_bipush (pc := 84) dX12_signMet_84 (by decide) ?_
              refine hf_cV (pc := 86) (N := M_X12_isSign) (ts := [0]) (vs := [47]) (st := []) (fun r => [(0, r)]) (c_X12_isSign x0 47) cal_X12_isSign ml_X12_215 ⟨hf_le rfl, hf_le rfl⟩ (hf_le rfl) ⟨rfl, rfl⟩ rfl dX12_signMet_86 (fun _ => rfl) (fun v86 => ?_)
              refine hf_if_eq (pc := 89) 97 dX12_signMet_89 rfl ?_ ?_
              · refine hf_iconst (pc := 97) dX12_signMet_97 ?_
                exact hf_Jret (pc := 98) dX12_signMet_98 (fun _ => rfl)
              · refine hf_bipush (pc := 92) dX12_signMet_92 (by decide) ?_
                refine hf_goto (pc := 94) 98 dX12_signMet_94 rfl ?_
                exact hf_Jret (pc := 98) dX12_signMet_98 (fun _ => rfl)
            · refine hf_bipush (pc := 78) dX12_signMet_78 (by decide) ?_
              refine hf_goto (pc := 80) 98 dX12_signMet_80 rfl ?_
              exact hf_Jret (pc := 98) dX12_signMet_98 (fun _ => rfl)
          · refine hf_bipush (pc := 64) dX12_signMet_64 (by decide) ?_
            refine hf_goto (pc := 66) 98 dX12_signMet_66 rfl ?_
            exact hf_Jret (pc := 98) dX12_signMet_98 (fun _ => rfl)
        · refine hf_bipush (pc := 50) dX12_signMet_50 (by decide) ?_
          refine hf_goto (pc := 52) 98 dX12_signMet_52 rfl ?_
          exact hf_Jret (pc := 98) dX12_signMet_98 (fun _ => rfl)
      · refine hf_iconst (pc := 32) dX12_signMet_32 ?_
        refine hf_ald_n (pc := 33) 0 rfl rfl dX12_signMet_33 ?_
        refine hf_getf (pc := 34) fl_X12_180 dX12_signMet_34 (fun v34 => ?_)
        refine hf_iadd (pc := 37) dX12_signMet_37 ?_
        refine hf_goto (pc := 38) 98 dX12_signMet_38 rfl ?_
        exact hf_Jret (pc := 98) dX12_signMet_98 (fun _ => rfl)
    · refine hf_iconst (pc := 20) dX12_signMet_20 ?_
      refine hf_goto (pc := 21) 98 dX12_signMet_21 rfl ?_
      exact hf_Jret (pc := 98) dX12_signMet_98 (fun _ => rfl)
  · refine hf_iconst (pc := 8) dX12_signMet_8 ?_
    refine hf_goto (pc := 9) 98 dX12_signMet_9 rfl ?_
    exact hf_Jret (pc := 98) dX12_signMet_98 (fun _ => rfl)
/-! HighFallModel.waitsFor(I)V -/
def M_X12_waitsFor : hf_D := (yX12_waitsFor, cX12_waitsFor, 2, none, 0, 0)
def f_X12_waitsFor (x0 x1 : Int) : hf_M Int :=
  hf_bd (hf_gf 12 31 x0) (fun v1 => hf_bd (hf_gf 12 33 x0) (fun v5 => hf_bd (hf_as 20 v1 v5 x1) (fun _ => hf_bd (hf_gf 12 33 x0) (fun v12 => hf_bd (hf_pf 12 33 x0 (v12 + 1)) (fun _ => hf_ret 0)))))
theorem cal_X12_waitsFor : hf_cv M_X12_waitsFor 12 1 := ⟨⟨ii_X12, kc_X12_waitsFor, by decide, by decide, by decide +kernel⟩, ki_X12_waitsFor, kv_X12_waitsFor, _, rfl, rfl⟩
set_option maxRecDepth 20000 in
theorem c_X12_waitsFor (x0 x1 : Int) : hf_Met M_X12_waitsFor [2, 0] [x0, x1] (f_X12_waitsFor x0 x1) := by
  refine hf_met rfl (by decide) (by decide) (by decide) ?_
  show hf_J M_X12_waitsFor 0 [(0, 2, x0), (1, 0, x1)] [] _
  refine hf_ald_n (pc := 0) 0 rfl rfl dX12_waitsFor_0 ?_
  refine hf_getf (pc := 1) fl_X12_62 dX12_waitsFor_1 (fun v1 => ?_)
  refine hf_ald_n (pc := 4) 0 rfl rfl dX12_waitsFor_4 ?_
  refine hf_getf (pc := 5) fl_X12_198 dX12_waitsFor_5 (fun v5 => ?_)
  refine hf_ild_n (pc := 8) 1 rfl rfl dX12_waitsFor_8 ?_
  refine hf_iast (pc := 9) dX12_waitsFor_9 ?_
  refine hf_ald_n (pc := 10) 0 rfl rfl dX12_waitsFor_10 ?_
  refine hf_dup (pc := 11) (by decide) dX12_waitsFor_11 ?_
  refine hf_getf (pc := 12) fl_X12_198 dX12_waitsFor_12 (fun v12 => ?_)
  refine hf_iconst (pc := 15) dX12_waitsFor_15 ?_
  refine hf_iadd (pc := 16) dX12_waitsFor_16 ?_
  refine hf_putf (pc := 17) fl_X12_198 trivial dX12_waitsFor_17 ?_
  exact hf_Jret (pc := 20) dX12_waitsFor_20 (fun _ => rfl)
/-! HighFallModel.isCounted()Z -/
def M_X12_isCounted : hf_D := (yX12_isCounted, cX12_isCounted, 1, some .boolean, 1, 21)
def f_X12_isCounted (x0 : Int) : hf_M Int :=
  hf_bd (hf_gf 12 36 x0) (fun v1 => hf_cb v1 64 (¬ v1 = 64) (hf_bd (hf_gf 12 36 x0) (fun v17 => hf_bd (hf_pf 12 36 x0 (v17 + 1)) (fun _ => hf_ret 1))) (hf_bd (hf_ob 12 x0 (f_X12_wrong x0 2)) (fun v11 => hf_ck (v11 = 0 ∨ v11 = 1) (hf_ret v11))))
theorem cal_X12_isCounted : hf_cv M_X12_isCounted 12 0 := ⟨⟨ii_X12, kc_X12_isCounted, by decide, by decide, by decide +kernel⟩, ki_X12_isCounted, kv_X12_isCounted, _, rfl, rfl⟩
set_option maxRecDepth 20000 in
theorem c_X12_isCounted (x0 : Int) : hf_Met M_X12_isCounted [2] [x0] (f_X12_isCounted x0) := by
  refine hf_met rfl (by decide) (by decide) (by decide) ?_
  show hf_J M_X12_isCounted 0 [(0, 2, x0)] [] _
  refine hf_ald_n (pc := 0) 0 rfl rfl dX12_isCounted_0 ?_
  refine hf_getf (pc := 1) fl_X12_212 dX12_isCounted_1 (fun v1 => ?_)
  refine hf_bipush (pc := 4) dX12_isCounted_4 (by decide) ?_
  refine hf_icmp_ne (pc := 6) 15 dX12_isCounted_6 rfl ?_ ?_
  · refine hf_ald_n (pc := 15) 0 rfl rfl dX12_isCounted_15 ?_
    refine hf_dup (pc := 16) (by decide) dX12_isCounted_16 ?_
    refine hf_getf (pc := 17) fl_X12_212 dX12_isCounted_17 (fun v17 => ?_)
    refine hf_iconst (pc := 20) dX12_isCounted_20 ?_
    refine hf_iadd (pc := 21) dX12_isCounted_21 ?_
    refine hf_putf (pc := 22) fl_X12_212 trivial dX12_isCounted_22 ?_
    refine hf_iconst (pc := 25) dX12_isCounted_25 ?_
    exact hf_Jret (pc := 26) (r := 1) ⟨dX12_isCounted_26, Or.inr rfl⟩ (fun _ => rfl)
  · refine hf_ald_n (pc := 9) 0 rfl rfl dX12_isCounted_9 ?_
    refine hf_iconst (pc := 10) dX12_isCounted_10 ?_
    refine hf_cV (pc := 11) (N := M_X12_wrong) (ts := [0]) (vs := [2]) (st := []) (fun r => [(0, r)]) (c_X12_wrong x0 2) cal_X12_wrong ml_X12_189 ⟨hf_le rfl, hf_le rfl⟩ (hf_le rfl) ⟨rfl, rfl⟩ rfl dX12_isCounted_11 (fun _ => rfl) (fun v11 => ?_)
    refine hf_Jck (fun hz => ?_)
    exact hf_Jret (pc := 14) ⟨dX12_isCounted_14, hz⟩ (fun _ => rfl)
/-! HighFallModel.numberRead(II)Z -/
def M_X12_numberRead : hf_D := (yX12_numberRead, cX12_numberRead, 3, some .boolean, 1, 21)
def f_X12_numberRead_30 (x0 : Int) : hf_M Int :=
  hf_bd (hf_ob 12 x0 (f_X12_wrong x0 2)) (fun v32 => hf_cz v32 (v32 = 0) (hf_ret 0) (hf_ret 1))
def f_X12_numberRead (x0 x1 x2 : Int) : hf_M Int :=
  hf_bd (hf_gf 12 15 x0) (fun v1 => hf_cb v1 2 (v1 = 2) (hf_bd (hf_gf 12 16 x0) (fun v15 => hf_cb v15 x1 (v15 < x1) (f_X12_numberRead_30 x0) (hf_bd (hf_gf 12 16 x0) (fun v23 => hf_cb v23 x2 (v23 ≤ x2) (hf_ret 1) (f_X12_numberRead_30 x0))))) (hf_bd (hf_ob 12 x0 (f_X12_wrong x0 1)) (fun v10 => hf_ck (v10 = 0 ∨ v10 = 1) (hf_ret v10))))
theorem cal_X12_numberRead : hf_cv M_X12_numberRead 12 2 := ⟨⟨ii_X12, kc_X12_numberRead, by decide, by decide, by decide +kernel⟩, ki_X12_numberRead, kv_X12_numberRead, _, rfl, rfl⟩
set_option maxRecDepth 20000 in
theorem j_X12_numberRead_30 (x0 : Int) : hf_J M_X12_numberRead 30 [(0, 2, x0)] [] (f_X12_numberRead_30 x0) := by
  refine hf_ald_n (pc := 30) 0 rfl rfl dX12_numberRead_30 ?_
  refine hf_iconst (pc := 31) dX12_numberRead_31 ?_
  refine hf_cV (pc := 32) (N := M_X12_wrong) (ts := [0]) (vs := [2]) (st := []) (fun r => [(0, r)]) (c_X12_wrong x0 2) cal_X12_wrong ml_X12_189 ⟨hf_le rfl, hf_le rfl⟩ (hf_le rfl) ⟨rfl, rfl⟩ rfl dX12_numberRead_32 (fun _ => rfl) (fun v32 => ?_)
  refine hf_if_eq (pc := 35) 42 dX12_numberRead_35 rfl ?_ ?_
  · refine hf_iconst (pc := 42) dX12_numberRead_42 ?_
    exact hf_Jret (pc := 43) (r := 0) ⟨dX12_numberRead_43, Or.inl rfl⟩ (fun _ => rfl)
  · refine hf_iconst (pc := 38) dX12_numberRead_38 ?_
    refine hf_goto (pc := 39) 43 dX12_numberRead_39 rfl ?_
    exact hf_Jret (pc := 43) (r := 1) ⟨dX12_numberRead_43, Or.inr rfl⟩ (fun _ => rfl)
set_option maxRecDepth 20000 in
theorem c_X12_numberRead (x0 x1 x2 : Int) : hf_Met M_X12_numberRead [2, 0, 0] [x0, x1, x2] (f_X12_numberRead x0 x1 x2) := by
  refine hf_met rfl (by decide) (by decide) (by decide) ?_
  show hf_J M_X12_numberRead 0 [(0, 2, x0), (1, 0, x1), (2, 0, x2)] [] _
  refine hf_ald_n (pc := 0) 0 rfl rfl dX12_numberRead_0 ?_
  refine hf_getf (pc := 1) fl_X12_170 dX12_numberRead_1 (fun v1 => ?_)
  refine hf_iconst (pc := 4) dX12_numberRead_4 ?_
  refine hf_icmp_eq (pc := 5) 14 dX12_numberRead_5 rfl ?_ ?_
  · refine hf_ald_n (pc := 14) 0 rfl rfl dX12_numberRead_14 ?_
    refine hf_getf (pc := 15) fl_X12_180 dX12_numberRead_15 (fun v15 => ?_)
    refine hf_ild_n (pc := 18) 1 rfl rfl dX12_numberRead_18 ?_
    refine hf_icmp_lt (pc := 19) 30 dX12_numberRead_19 rfl ?_ ?_
    · exact hf_sub [0] rfl (j_X12_numberRead_30 x0)
    · refine hf_ald_n (pc := 22) 0 rfl rfl dX12_numberRead_22 ?_
      refine hf_getf (pc := 23) fl_X12_180 dX12_numberRead_23 (fun v23 => ?_)
      refine hf_ild_n (pc := 26) 2 rfl rfl dX12_numberRead_26 ?_
      refine hf_icmp_le (pc := 27) 38 dX12_numberRead_27 rfl ?_ ?_
      · refine hf_iconst (pc := 38) dX12_numberRead_38 ?_
        refine hf_goto (pc := 39) 43 dX12_numberRead_39 rfl ?_
        exact hf_Jret (pc := 43) (r := 1) ⟨dX12_numberRead_43, Or.inr rfl⟩ (fun _ => rfl)
      · exact hf_sub [0] rfl (j_X12_numberRead_30 x0)
  · refine hf_ald_n (pc := 8) 0 rfl rfl dX12_numberRead_8 ?_
    refine hf_iconst (pc := 9) dX12_numberRead_9 ?_
    refine hf_cV (pc := 10) (N := M_X12_wrong) (ts := [0]) (vs := [1]) (st := []) (fun r => [(0, r)]) (c_X12_wrong x0 1) cal_X12_wrong ml_X12_189 ⟨hf_le rfl, hf_le rfl⟩ (hf_le rfl) ⟨rfl, rfl⟩ rfl dX12_numberRead_10 (fun _ => rfl) (fun v10 => ?_)
    refine hf_Jck (fun hz => ?_)
    exact hf_Jret (pc := 13) ⟨dX12_numberRead_13, hz⟩ (fun _ => rfl)
/-! HighFallModel.grown(III)V -/
def M_X12_grown : hf_D := (yX12_grown, cX12_grown, 4, none, 0, 0)
def f_X12_grown (x0 x1 x2 x3 : Int) : hf_M Int :=
  hf_bd (hf_gf 12 23 x0) (fun v1 => hf_bd (hf_gf 12 22 x0) (fun v7 => hf_bd (hf_as 20 v1 (64 + v7) x1) (fun _ => hf_bd (hf_gf 12 24 x0) (fun v14 => hf_bd (hf_gf 12 22 x0) (fun v20 => hf_bd (hf_as 20 v14 (64 + v20) x2) (fun _ => hf_bd (hf_gf 12 25 x0) (fun v27 => hf_bd (hf_gf 12 22 x0) (fun v33 => hf_bd (hf_as 20 v27 (64 + v33) x3) (fun _ => hf_bd (hf_gf 12 32 x0) (fun v40 => hf_bd (hf_gf 12 34 x0) (fun v44 => hf_bd (hf_gf 12 22 x0) (fun v48 => hf_bd (hf_as 20 v40 v44 v48) (fun _ => hf_bd (hf_gf 12 34 x0) (fun v54 => hf_bd (hf_pf 12 34 x0 (v54 + 1)) (fun _ => hf_bd (hf_gf 12 22 x0) (fun v64 => hf_bd (hf_pf 12 22 x0 (v64 + 1)) (fun _ => hf_ret 0)))))))))))))))))
theorem cal_X12_grown : hf_cv M_X12_grown 12 3 := ⟨⟨ii_X12, kc_X12_grown, by decide, by decide, by decide +kernel⟩, ki_X12_grown, kv_X12_grown, _, rfl, rfl⟩
set_option maxRecDepth 20000 in
theorem c_X12_grown (x0 x1 x2 x3 : Int) : hf_Met M_X12_grown [2, 0, 0, 0] [x0, x1, x2, x3] (f_X12_grown x0 x1 x2 x3) := by
  refine hf_met rfl (by decide) (by decide) (by decide) ?_
  show hf_J M_X12_grown 0 [(0, 2, x0), (1, 0, x1), (2, 0, x2), (3, 0, x3)] [] _
  refine hf_ald_n (pc := 0) 0 rfl rfl dX12_grown_0 ?_
  refine hf_getf (pc := 1) fl_X12_38 dX12_grown_1 (fun v1 => ?_)
  refine hf_bipush (pc := 4) dX12_grown_4 (by decide) ?_
  refine hf_ald_n (pc := 6) 0 rfl rfl dX12_grown_6 ?_
  refine hf_getf (pc := 7) fl_X12_192 dX12_grown_7 (fun v7 => ?_)
  refine hf_iadd (pc := 10) dX12_grown_10 ?_
  refine hf_ild_n (pc := 11) 1 rfl rfl dX12_grown_11 ?_
  refine hf_iast (pc := 12) dX12_grown_12 ?_
  refine hf_ald_n (pc := 13) 0 rfl rfl dX12_grown_13 ?_
  refine hf_getf (pc := 14) fl_X12_41 dX12_grown_14 (fun v14 => ?_)
  refine hf_bipush (pc := 17) dX12_grown_17 (by decide) ?_
  refine hf_ald_n (pc := 19) 0 rfl rfl dX12_grown_19 ?_
  refine hf_getf (pc := 20) fl_X12_192 dX12_grown_20 (fun v20 => ?_)
  refine hf_iadd (pc := 23) dX12_grown_23 ?_
  refine hf_ild_n (pc := 24) 2 rfl rfl dX12_grown_24 ?_
  refine hf_iast (pc := 25) dX12_grown_25 ?_
  refine hf_ald_n (pc := 26) 0 rfl rfl dX12_grown_26 ?_
  refine hf_getf (pc := 27) fl_X12_44 dX12_grown_27 (fun v27 => ?_)
  refine hf_bipush (pc := 30) dX12_grown_30 (by decide) ?_
  refine hf_ald_n (pc := 32) 0 rfl rfl dX12_grown_32 ?_
  refine hf_getf (pc := 33) fl_X12_192 dX12_grown_33 (fun v33 => ?_)
  refine hf_iadd (pc := 36) dX12_grown_36 ?_
  refine hf_ild_n (pc := 37) 3 rfl rfl dX12_grown_37 ?_
  refine hf_iast (pc := 38) dX12_grown_38 ?_
  refine hf_ald_n (pc := 39) 0 rfl rfl dX12_grown_39 ?_
  refine hf_getf (pc := 40) fl_X12_65 dX12_grown_40 (fun v40 => ?_)
  refine hf_ald_n (pc := 43) 0 rfl rfl dX12_grown_43 ?_
  refine hf_getf (pc := 44) fl_X12_195 dX12_grown_44 (fun v44 => ?_)
  refine hf_ald_n (pc := 47) 0 rfl rfl dX12_grown_47 ?_
  refine hf_getf (pc := 48) fl_X12_192 dX12_grown_48 (fun v48 => ?_)
  refine hf_iast (pc := 51) dX12_grown_51 ?_
  refine hf_ald_n (pc := 52) 0 rfl rfl dX12_grown_52 ?_
  refine hf_dup (pc := 53) (by decide) dX12_grown_53 ?_
  refine hf_getf (pc := 54) fl_X12_195 dX12_grown_54 (fun v54 => ?_)
  refine hf_iconst (pc := 57) dX12_grown_57 ?_
  refine hf_iadd (pc := 58) dX12_grown_58 ?_
  refine hf_putf (pc := 59) fl_X12_195 trivial dX12_grown_59 ?_
  refine hf_ald_n (pc := 62) 0 rfl rfl dX12_grown_62 ?_
  refine hf_dup (pc := 63) (by decide) dX12_grown_63 ?_
  refine hf_getf (pc := 64) fl_X12_192 dX12_grown_64 (fun v64 => ?_)
  refine hf_iconst (pc := 67) dX12_grown_67 ?_
  refine hf_iadd (pc := 68) dX12_grown_68 ?_
  refine hf_putf (pc := 69) fl_X12_192 trivial dX12_grown_69 ?_
  exact hf_Jret (pc := 72) dX12_grown_72 (fun _ => rfl)
/-! HighFallModel.leafRead()Z -/
def M_X12_leafRead : hf_D := (yX12_leafRead, cX12_leafRead, 2, some .boolean, 2, 47)
def f_X12_leafRead_162 (x0 s0 s1 s2 : Int) : hf_M Int :=
  hf_bd (hf_ob 12 s0 (f_X12_grown s0 s1 s2 0)) (fun _ => hf_bd (hf_pf 12 37 x0 0) (fun _ => hf_bd (hf_ob 12 x0 (f_X12_take x0)) (fun _ => hf_ret 1)))
def f_X12_leafRead_125 (x0 x1 : Int) : hf_M Int :=
  hf_bd (hf_ob 12 x0 (f_X12_isCounted x0)) (fun v126 => hf_cz v126 (¬ v126 = 0) (hf_ck (hf_inI x1) (hf_bd (hf_ret (if x1 = 0 then 0 else 1)) (fun w144 => hf_cz x1 (x1 = 0) (hf_bd (hf_gf 12 16 x0) (fun v159 => f_X12_leafRead_162 x0 x0 w144 v159)) (hf_bd (hf_gf 12 16 x0) (fun v149 => f_X12_leafRead_162 x0 x0 w144 (v149 - 6)))))) (hf_ret 0))
def f_X12_leafRead_107 (x0 s0 : Int) : hf_M Int :=
  hf_cz s0 (¬ s0 = 0) (f_X12_leafRead_125 x0 s0) (hf_bd (hf_ob 12 x0 (f_X12_numberRead x0 0 999)) (fun v117 => hf_cz v117 (¬ v117 = 0) (f_X12_leafRead_125 x0 s0) (hf_ret 0)))
def f_X12_leafRead_85 (x0 : Int) : hf_M Int :=
  hf_bd (hf_gf 12 15 x0) (fun v86 => hf_cb v86 1 (¬ v86 = 1) (f_X12_leafRead_107 x0 0) (hf_bd (hf_gf 12 16 x0) (fun v94 => hf_cb v94 6 (v94 < 6) (f_X12_leafRead_107 x0 0) (f_X12_leafRead_107 x0 1))))
def f_X12_leafRead (x0 : Int) : hf_M Int :=
  hf_bd (hf_ob 12 x0 (f_X12_isSign x0 40)) (fun v3 => hf_cz v3 (v3 = 0) (hf_bd (hf_ob 12 x0 (f_X12_isKey x0 5)) (fun v52 => hf_cz v52 (v52 = 0) (f_X12_leafRead_85 x0) (hf_bd (hf_gf 12 38 x0) (fun v59 => hf_cz v59 (v59 = 0) (f_X12_leafRead_85 x0) (hf_bd (hf_ob 12 x0 (f_X12_isCounted x0)) (fun v66 => hf_cz v66 (¬ v66 = 0) (hf_bd (hf_ob 12 x0 (f_X12_waitsFor x0 2)) (fun _ => hf_bd (hf_ob 12 x0 (f_X12_take x0)) (fun _ => hf_ret 1))) (hf_ret 0))))))) (hf_bd (hf_gf 12 35 x0) (fun v10 => hf_cb v10 8 (¬ v10 = 8) (hf_bd (hf_gf 12 35 x0) (fun v26 => hf_bd (hf_pf 12 35 x0 (v26 + 1)) (fun _ => hf_bd (hf_ob 12 x0 (f_X12_waitsFor x0 0)) (fun _ => hf_bd (hf_pf 12 38 x0 1) (fun _ => hf_bd (hf_ob 12 x0 (f_X12_take x0)) (fun _ => hf_ret 1)))))) (hf_bd (hf_ob 12 x0 (f_X12_wrong x0 2)) (fun v20 => hf_ck (v20 = 0 ∨ v20 = 1) (hf_ret v20))))))
theorem cal_X12_leafRead : hf_cv M_X12_leafRead 12 0 := ⟨⟨ii_X12, kc_X12_leafRead, by decide, by decide, by decide +kernel⟩, ki_X12_leafRead, kv_X12_leafRead, _, rfl, rfl⟩
set_option maxRecDepth 20000 in
theorem j_X12_leafRead_162 (x0 s0 s1 s2 : Int) : hf_J M_X12_leafRead 162 [(0, 2, x0)] [(0, s2), (0, s1), (2, s0)] (f_X12_leafRead_162 x0 s0 s1 s2) := by
  refine hf_iconst (pc := 162) dX12_leafRead_162 ?_
  refine hf_cV (pc := 163) (N := M_X12_grown) (ts := [0, 0, 0]) (vs := [s1, s2, 0]) (st := []) (fun r => []) (c_X12_grown s0 s1 s2 0) cal_X12_grown ml_X12_208 ⟨hf_le rfl, hf_le rfl⟩ (hf_le rfl) ⟨rfl, rfl⟩ rfl dX12_leafRead_163 (fun _ => rfl) (fun _ => ?_)
  refine hf_ald_n (pc := 166) 0 rfl rfl dX12_leafRead_166 ?_
  refine hf_iconst (pc := 167) dX12_leafRead_167 ?_
  refine hf_putf (pc := 168) fl_X12_242 (Or.inl rfl) dX12_leafRead_168 ?_
  refine hf_ald_n (pc := 171) 0 rfl rfl dX12_leafRead_171 ?_
  refine hf_cV (pc := 172) (N := M_X12_take) (ts := []) (vs := []) (st := []) (fun r => []) (c_X12_take x0) cal_X12_take ml_X12_228 ⟨hf_le rfl, hf_le rfl⟩ (hf_le rfl) ⟨rfl, rfl⟩ rfl dX12_leafRead_172 (fun _ => rfl) (fun _ => ?_)
  refine hf_iconst (pc := 175) dX12_leafRead_175 ?_
  exact hf_Jret (pc := 176) (r := 1) ⟨dX12_leafRead_176, Or.inr rfl⟩ (fun _ => rfl)
set_option maxRecDepth 20000 in
theorem j_X12_leafRead_125 (x0 x1 : Int) : hf_J M_X12_leafRead 125 [(0, 2, x0), (1, 0, x1)] [] (f_X12_leafRead_125 x0 x1) := by
  refine hf_ald_n (pc := 125) 0 rfl rfl dX12_leafRead_125 ?_
  refine hf_cV (pc := 126) (N := M_X12_isCounted) (ts := []) (vs := []) (st := []) (fun r => [(0, r)]) (c_X12_isCounted x0) cal_X12_isCounted ml_X12_234 ⟨hf_le rfl, hf_le rfl⟩ (hf_le rfl) ⟨rfl, rfl⟩ rfl dX12_leafRead_126 (fun _ => rfl) (fun v126 => ?_)
  refine hf_if_ne (pc := 129) 134 dX12_leafRead_129 rfl ?_ ?_
  · refine hf_ald_n (pc := 134) 0 rfl rfl dX12_leafRead_134 ?_
    refine hf_ild_n (pc := 135) 1 rfl rfl dX12_leafRead_135 ?_
    refine hf_Jdiz (pc := 136) (pcM := 144) (t := 0) (stM := [(2, x0)]) (fun w144 => ?_) (fun a1 a2 => ?_)
    · refine hf_ild_n (pc := 144) 1 rfl rfl dX12_leafRead_144 ?_
      refine hf_if_eq (pc := 145) 158 dX12_leafRead_145 rfl ?_ ?_
      · refine hf_ald_n (pc := 158) 0 rfl rfl dX12_leafRead_158 ?_
        refine hf_getf (pc := 159) fl_X12_180 dX12_leafRead_159 (fun v159 => ?_)
        exact hf_sub [0] rfl (j_X12_leafRead_162 x0 x0 w144 v159)
      · refine hf_ald_n (pc := 148) 0 rfl rfl dX12_leafRead_148 ?_
        refine hf_getf (pc := 149) fl_X12_180 dX12_leafRead_149 (fun v149 => ?_)
        refine hf_bipush (pc := 152) dX12_leafRead_152 (by decide) ?_
        refine hf_isub (pc := 154) dX12_leafRead_154 ?_
        refine hf_goto (pc := 155) 162 dX12_leafRead_155 rfl ?_
        exact hf_sub [0] rfl (j_X12_leafRead_162 x0 x0 w144 (v149 - 6))
    · refine hf_if_eq (pc := 136) 143 dX12_leafRead_136 rfl ?_ ?_
      · refine hf_iconst (pc := 143) dX12_leafRead_143 ?_
        exact a1
      · refine hf_iconst (pc := 139) dX12_leafRead_139 ?_
        refine hf_goto (pc := 140) 144 dX12_leafRead_140 rfl ?_
        exact a2
  · refine hf_iconst (pc := 132) dX12_leafRead_132 ?_
    exact hf_Jret (pc := 133) (r := 0) ⟨dX12_leafRead_133, Or.inl rfl⟩ (fun _ => rfl)
set_option maxRecDepth 20000 in
theorem j_X12_leafRead_107 (x0 s0 : Int) : hf_J M_X12_leafRead 107 [(0, 2, x0)] [(0, s0)] (f_X12_leafRead_107 x0 s0) := by
  refine hf_ist_n (pc := 107) (lv' := [(1, 0, s0), (0, 2, x0)]) rfl (by decide) rfl dX12_leafRead_107 ?_
  refine hf_ild_n (pc := 108) 0 rfl rfl dX12_leafRead_108 ?_
  refine hf_if_ne (pc := 109) 125 dX12_leafRead_109 rfl ?_ ?_
  · exact hf_sub [1, 0] rfl (j_X12_leafRead_125 x0 s0)
  · refine hf_ald_n (pc := 112) 1 rfl rfl dX12_leafRead_112 ?_
    refine hf_iconst (pc := 113) dX12_leafRead_113 ?_
    refine hf_sipush (pc := 114) dX12_leafRead_114 (by decide) ?_
    refine hf_cV (pc := 117) (N := M_X12_numberRead) (ts := [0, 0]) (vs := [0, 999]) (st := []) (fun r => [(0, r)]) (c_X12_numberRead x0 0 999) cal_X12_numberRead ml_X12_238 ⟨hf_le rfl, hf_le rfl⟩ (hf_le rfl) ⟨rfl, rfl⟩ rfl dX12_leafRead_117 (fun _ => rfl) (fun v117 => ?_)
    refine hf_if_ne (pc := 120) 125 dX12_leafRead_120 rfl ?_ ?_
    · exact hf_sub [1, 0] rfl (j_X12_leafRead_125 x0 s0)
    · refine hf_iconst (pc := 123) dX12_leafRead_123 ?_
      exact hf_Jret (pc := 124) (r := 0) ⟨dX12_leafRead_124, Or.inl rfl⟩ (fun _ => rfl)
set_option maxRecDepth 20000 in
theorem j_X12_leafRead_85 (x0 : Int) : hf_J M_X12_leafRead 85 [(0, 2, x0)] [] (f_X12_leafRead_85 x0) := by
  refine hf_ald_n (pc := 85) 0 rfl rfl dX12_leafRead_85 ?_
  refine hf_getf (pc := 86) fl_X12_170 dX12_leafRead_86 (fun v86 => ?_)
  refine hf_iconst (pc := 89) dX12_leafRead_89 ?_
  refine hf_icmp_ne (pc := 90) 106 dX12_leafRead_90 rfl ?_ ?_
  · refine hf_iconst (pc := 106) dX12_leafRead_106 ?_
    exact hf_sub [0] rfl (j_X12_leafRead_107 x0 0)
  · refine hf_ald_n (pc := 93) 0 rfl rfl dX12_leafRead_93 ?_
    refine hf_getf (pc := 94) fl_X12_180 dX12_leafRead_94 (fun v94 => ?_)
    refine hf_bipush (pc := 97) dX12_leafRead_97 (by decide) ?_
    refine hf_icmp_lt (pc := 99) 106 dX12_leafRead_99 rfl ?_ ?_
    · refine hf_iconst (pc := 106) dX12_leafRead_106 ?_
      exact hf_sub [0] rfl (j_X12_leafRead_107 x0 0)
    · refine hf_iconst (pc := 102) dX12_leafRead_102 ?_
      refine hf_goto (pc := 103) 107 dX12_leafRead_103 rfl ?_
      exact hf_sub [0] rfl (j_X12_leafRead_107 x0 1)
set_option maxRecDepth 20000 in
theorem c_X12_leafRead (x0 : Int) : hf_Met M_X12_leafRead [2] [x0] (f_X12_leafRead x0) := by
  refine hf_met rfl (by decide) (by decide) (by decide) ?_
  show hf_J M_X12_leafRead 0 [(0, 2, x0)] [] _
  refine hf_ald_n (pc := 0) 0 rfl rfl dX12_leafRead_0 ?_
  refine hf_bipush (pc := 1) dX12_leafRead_1 (by decide) ?_
  refine hf_cV (pc := 3) (N := M_X12_isSign) (ts := [0]) (vs := [40]) (st := []) (fun r => [(0, r)]) (c_X12_isSign x0 40) cal_X12_isSign ml_X12_215 ⟨hf_le rfl, hf_le rfl⟩ (hf_le rfl) ⟨rfl, rfl⟩ rfl dX12_leafRead_3 (fun _ => rfl) (fun v3 => ?_)
  refine hf_if_eq (pc := 6) 50 dX12_leafRead_6 rfl ?_ ?_
  · refine hf_ald_n (pc := 50) 0 rfl rfl dX12_leafRead_50 ?_
    refine hf_iconst (pc := 51) dX12_leafRead_51 ?_
    refine hf_cV (pc := 52) (N := M_X12_isKey) (ts := [0]) (vs := [5]) (st := []) (fun r => [(0, r)]) (c_X12_isKey x0 5) cal_X12_isKey ml_X12_231 ⟨hf_le rfl, hf_le rfl⟩ (hf_le rfl) ⟨rfl, rfl⟩ rfl dX12_leafRead_52 (fun _ => rfl) (fun v52 => ?_)
    refine hf_if_eq (pc := 55) 85 dX12_leafRead_55 rfl ?_ ?_
    · exact hf_sub [0] rfl (j_X12_leafRead_85 x0)
    · refine hf_ald_n (pc := 58) 0 rfl rfl dX12_leafRead_58 ?_
      refine hf_getf (pc := 59) fl_X12_225 dX12_leafRead_59 (fun v59 => ?_)
      refine hf_if_eq (pc := 62) 85 dX12_leafRead_62 rfl ?_ ?_
      · exact hf_sub [0] rfl (j_X12_leafRead_85 x0)
      · refine hf_ald_n (pc := 65) 0 rfl rfl dX12_leafRead_65 ?_
        refine hf_cV (pc := 66) (N := M_X12_isCounted) (ts := []) (vs := []) (st := []) (fun r => [(0, r)]) (c_X12_isCounted x0) cal_X12_isCounted ml_X12_234 ⟨hf_le rfl, hf_le rfl⟩ (hf_le rfl) ⟨rfl, rfl⟩ rfl dX12_leafRead_66 (fun _ => rfl) (fun v66 => ?_)
        refine hf_if_ne (pc := 69) 74 dX12_leafRead_69 rfl ?_ ?_
        · refine hf_ald_n (pc := 74) 0 rfl rfl dX12_leafRead_74 ?_
          refine hf_iconst (pc := 75) dX12_leafRead_75 ?_
          refine hf_cV (pc := 76) (N := M_X12_waitsFor) (ts := [0]) (vs := [2]) (st := []) (fun r => []) (c_X12_waitsFor x0 2) cal_X12_waitsFor ml_X12_221 ⟨hf_le rfl, hf_le rfl⟩ (hf_le rfl) ⟨rfl, rfl⟩ rfl dX12_leafRead_76 (fun _ => rfl) (fun _ => ?_)
          refine hf_ald_n (pc := 79) 0 rfl rfl dX12_leafRead_79 ?_
          refine hf_cV (pc := 80) (N := M_X12_take) (ts := []) (vs := []) (st := []) (fun r => []) (c_X12_take x0) cal_X12_take ml_X12_228 ⟨hf_le rfl, hf_le rfl⟩ (hf_le rfl) ⟨rfl, rfl⟩ rfl dX12_leafRead_80 (fun _ => rfl) (fun _ => ?_)
          refine hf_iconst (pc := 83) dX12_leafRead_83 ?_
          exact hf_Jret (pc := 84) (r := 1) ⟨dX12_leafRead_84, Or.inr rfl⟩ (fun _ => rfl)
        · refine hf_iconst (pc := 72) dX12_leafRead_72 ?_
          exact hf_Jret (pc := 73) (r := 0) ⟨dX12_leafRead_73, Or.inl rfl⟩ (fun _ => rfl)
  · refine hf_ald_n (pc := 9) 0 rfl rfl dX12_leafRead_9 ?_
    refine hf_getf (pc := 10) fl_X12_218 dX12_leafRead_10 (fun v10 => ?_)
    refine hf_bipush (pc := 13) dX12_leafRead_13 (by decide) ?_
    refine hf_icmp_ne (pc := 15) 24 dX12_leafRead_15 rfl ?_ ?_
    · refine hf_ald_n (pc := 24) 0 rfl rfl dX12_leafRead_24 ?_
      refine hf_dup (pc := 25) (by decide) dX12_leafRead_25 ?_
      refine hf_getf (pc := 26) fl_X12_218 dX12_leafRead_26 (fun v26 => ?_)
      refine hf_iconst (pc := 29) dX12_leafRead_29 ?_
      refine hf_iadd (pc := 30) dX12_leafRead_30 ?_
      refine hf_putf (pc := 31) fl_X12_218 trivial dX12_leafRead_31 ?_
      refine hf_ald_n (pc := 34) 0 rfl rfl dX12_leafRead_34 ?_
      refine hf_iconst (pc := 35) dX12_leafRead_35 ?_
      refine hf_cV (pc := 36) (N := M_X12_waitsFor) (ts := [0]) (vs := [0]) (st := []) (fun r => []) (c_X12_waitsFor x0 0) cal_X12_waitsFor ml_X12_221 ⟨hf_le rfl, hf_le rfl⟩ (hf_le rfl) ⟨rfl, rfl⟩ rfl dX12_leafRead_36 (fun _ => rfl) (fun _ => ?_)
      refine hf_ald_n (pc := 39) 0 rfl rfl dX12_leafRead_39 ?_
      refine hf_iconst (pc := 40) dX12_leafRead_40 ?_
      refine hf_putf (pc := 41) fl_X12_225 (Or.inr rfl) dX12_leafRead_41 ?_
      refine hf_ald_n (pc := 44) 0 rfl rfl dX12_leafRead_44 ?_
      refine hf_cV (pc := 45) (N := M_X12_take) (ts := []) (vs := []) (st := []) (fun r => []) (c_X12_take x0) cal_X12_take ml_X12_228 ⟨hf_le rfl, hf_le rfl⟩ (hf_le rfl) ⟨rfl, rfl⟩ rfl dX12_leafRead_45 (fun _ => rfl) (fun _ => ?_)
      refine hf_iconst (pc := 48) dX12_leafRead_48 ?_
      exact hf_Jret (pc := 49) (r := 1) ⟨dX12_leafRead_49, Or.inr rfl⟩ (fun _ => rfl)
    · refine hf_ald_n (pc := 18) 0 rfl rfl dX12_leafRead_18 ?_
      refine hf_iconst (pc := 19) dX12_leafRead_19 ?_
      refine hf_cV (pc := 20) (N := M_X12_wrong) (ts := [0]) (vs := [2]) (st := []) (fun r => [(0, r)]) (c_X12_wrong x0 2) cal_X12_wrong ml_X12_189 ⟨hf_le rfl, hf_le rfl⟩ (hf_le rfl) ⟨rfl, rfl⟩ rfl dX12_leafRead_20 (fun _ => rfl) (fun v20 => ?_)
      refine hf_Jck (fun hz => ?_)
      exact hf_Jret (pc := 23) ⟨dX12_leafRead_23, hz⟩ (fun _ => rfl)
/-! HighFallModel.rank(I)I -/
def M_X12_rank : hf_D := (yX12_rank, cX12_rank, 1, some .int, 0, 0)
def f_X12_rank (x0 : Int) : hf_M Int :=
  hf_cb x0 13 (x0 < 13) (hf_cb x0 11 (x0 < 11) (hf_cb x0 5 (x0 < 5) (hf_cb x0 2 (¬ x0 = 2) (hf_cb x0 3 (¬ x0 = 3) (hf_cb x0 4 (¬ x0 = 4) (hf_ret 0) (hf_ret 1)) (hf_ret 2)) (hf_ret 3)) (hf_ret 4)) (hf_ret 5)) (hf_ret 6)
theorem cal_X12_rank : hf_csx M_X12_rank 1 := ⟨⟨ii_X12, kc_X12_rank, by decide, by decide, by decide +kernel⟩, ks_X12_rank⟩
set_option maxRecDepth 20000 in
theorem c_X12_rank (x0 : Int) : hf_Met M_X12_rank [0] [x0] (f_X12_rank x0) := by
  refine hf_met rfl (by decide) (by decide) (by decide) ?_
  show hf_J M_X12_rank 0 [(0, 0, x0)] [] _
  refine hf_ild_n (pc := 0) 0 rfl rfl dX12_rank_0 ?_
  refine hf_bipush (pc := 1) dX12_rank_1 (by decide) ?_
  refine hf_icmp_lt (pc := 3) 11 dX12_rank_3 rfl ?_ ?_
  · refine hf_ild_n (pc := 11) 0 rfl rfl dX12_rank_11 ?_
    refine hf_bipush (pc := 12) dX12_rank_12 (by decide) ?_
    refine hf_icmp_lt (pc := 14) 21 dX12_rank_14 rfl ?_ ?_
    · refine hf_ild_n (pc := 21) 0 rfl rfl dX12_rank_21 ?_
      refine hf_iconst (pc := 22) dX12_rank_22 ?_
      refine hf_icmp_lt (pc := 23) 30 dX12_rank_23 rfl ?_ ?_
      · refine hf_ild_n (pc := 30) 0 rfl rfl dX12_rank_30 ?_
        refine hf_iconst (pc := 31) dX12_rank_31 ?_
        refine hf_icmp_ne (pc := 32) 39 dX12_rank_32 rfl ?_ ?_
        · refine hf_ild_n (pc := 39) 0 rfl rfl dX12_rank_39 ?_
          refine hf_iconst (pc := 40) dX12_rank_40 ?_
          refine hf_icmp_ne (pc := 41) 48 dX12_rank_41 rfl ?_ ?_
          · refine hf_ild_n (pc := 48) 0 rfl rfl dX12_rank_48 ?_
            refine hf_iconst (pc := 49) dX12_rank_49 ?_
            refine hf_icmp_ne (pc := 50) 57 dX12_rank_50 rfl ?_ ?_
            · refine hf_iconst (pc := 57) dX12_rank_57 ?_
              exact hf_Jret (pc := 58) dX12_rank_58 (fun _ => rfl)
            · refine hf_iconst (pc := 53) dX12_rank_53 ?_
              refine hf_goto (pc := 54) 58 dX12_rank_54 rfl ?_
              exact hf_Jret (pc := 58) dX12_rank_58 (fun _ => rfl)
          · refine hf_iconst (pc := 44) dX12_rank_44 ?_
            refine hf_goto (pc := 45) 58 dX12_rank_45 rfl ?_
            exact hf_Jret (pc := 58) dX12_rank_58 (fun _ => rfl)
        · refine hf_iconst (pc := 35) dX12_rank_35 ?_
          refine hf_goto (pc := 36) 58 dX12_rank_36 rfl ?_
          exact hf_Jret (pc := 58) dX12_rank_58 (fun _ => rfl)
      · refine hf_iconst (pc := 26) dX12_rank_26 ?_
        refine hf_goto (pc := 27) 58 dX12_rank_27 rfl ?_
        exact hf_Jret (pc := 58) dX12_rank_58 (fun _ => rfl)
    · refine hf_iconst (pc := 17) dX12_rank_17 ?_
      refine hf_goto (pc := 18) 58 dX12_rank_18 rfl ?_
      exact hf_Jret (pc := 58) dX12_rank_58 (fun _ => rfl)
  · refine hf_bipush (pc := 6) dX12_rank_6 (by decide) ?_
    refine hf_goto (pc := 8) 58 dX12_rank_8 rfl ?_
    exact hf_Jret (pc := 58) dX12_rank_58 (fun _ => rfl)
/-! HighFallModel.dropHeld()I -/
def M_X12_dropHeld : hf_D := (yX12_dropHeld, cX12_dropHeld, 1, some .int, 0, 0)
def f_X12_dropHeld (x0 : Int) : hf_M Int :=
  hf_bd (hf_gf 12 34 x0) (fun v2 => hf_bd (hf_pf 12 34 x0 (v2 - 1)) (fun _ => hf_bd (hf_gf 12 32 x0) (fun v11 => hf_bd (hf_gf 12 34 x0) (fun v15 => hf_bd (hf_al 20 v11 v15) (fun v18 => hf_ret v18)))))
theorem cal_X12_dropHeld : hf_cv M_X12_dropHeld 12 0 := ⟨⟨ii_X12, kc_X12_dropHeld, by decide, by decide, by decide +kernel⟩, ki_X12_dropHeld, kv_X12_dropHeld, _, rfl, rfl⟩
set_option maxRecDepth 20000 in
theorem c_X12_dropHeld (x0 : Int) : hf_Met M_X12_dropHeld [2] [x0] (f_X12_dropHeld x0) := by
  refine hf_met rfl (by decide) (by decide) (by decide) ?_
  show hf_J M_X12_dropHeld 0 [(0, 2, x0)] [] _
  refine hf_ald_n (pc := 0) 0 rfl rfl dX12_dropHeld_0 ?_
  refine hf_dup (pc := 1) (by decide) dX12_dropHeld_1 ?_
  refine hf_getf (pc := 2) fl_X12_195 dX12_dropHeld_2 (fun v2 => ?_)
  refine hf_iconst (pc := 5) dX12_dropHeld_5 ?_
  refine hf_isub (pc := 6) dX12_dropHeld_6 ?_
  refine hf_putf (pc := 7) fl_X12_195 trivial dX12_dropHeld_7 ?_
  refine hf_ald_n (pc := 10) 0 rfl rfl dX12_dropHeld_10 ?_
  refine hf_getf (pc := 11) fl_X12_65 dX12_dropHeld_11 (fun v11 => ?_)
  refine hf_ald_n (pc := 14) 0 rfl rfl dX12_dropHeld_14 ?_
  refine hf_getf (pc := 15) fl_X12_195 dX12_dropHeld_15 (fun v15 => ?_)
  refine hf_iald (pc := 18) dX12_dropHeld_18 (fun v18 => ?_)
  exact hf_Jret (pc := 19) dX12_dropHeld_19 (fun _ => rfl)
/-! HighFallModel.bind(I)V -/
def M_X12_bind : hf_D := (yX12_bind, cX12_bind, 5, none, 1, 23)
def f_X12_bind_58 (rec_0 : Unit → hf_M Int) (x0 x1 x2 s0 : Int) : hf_M Int :=
  hf_bd (hf_ob 12 x0 (f_X12_dropHeld x0)) (fun v60 => hf_bd (hf_ob 12 x0 (f_X12_grown x0 x2 v60 s0)) (fun _ => rec_0 ()))
def B_X12_bind_0 (x0 x1 : Int) (rec_0 : Unit → hf_M Int) : hf_M Int :=
  hf_bd (hf_gf 12 33 x0) (fun v1 => hf_cz v1 (v1 ≤ 0) (hf_ret 0) (hf_bd (hf_gf 12 31 x0) (fun v8 => hf_bd (hf_gf 12 33 x0) (fun v12 => hf_bd (hf_al 20 v8 (v12 - 1)) (fun v17 => hf_bd (f_X12_rank v17) (fun v18 => hf_cb v18 x1 (v18 < x1) (hf_ret 0) (hf_bd (hf_gf 12 33 x0) (fun v27 => hf_bd (hf_pf 12 33 x0 (v27 - 1)) (fun _ => hf_bd (hf_gf 12 31 x0) (fun v36 => hf_bd (hf_gf 12 33 x0) (fun v40 => hf_bd (hf_al 20 v36 v40) (fun v43 => hf_cb v43 2 (¬ v43 = 2) (hf_bd (hf_ob 12 x0 (f_X12_dropHeld x0)) (fun v55 => f_X12_bind_58 rec_0 x0 x1 v43 v55)) (f_X12_bind_58 rec_0 x0 x1 v43 (-1))))))))))))))
def f_X12_bind_0 (x0 x1 : Int) : hf_M Int := hf_fx (fun rec s => B_X12_bind_0 x0 x1 rec) hf_N ()
def f_X12_bind (x0 x1 : Int) : hf_M Int :=
  f_X12_bind_0 x0 x1
theorem cal_X12_bind : hf_cv M_X12_bind 12 1 := ⟨⟨ii_X12, kc_X12_bind, by decide, by decide, by decide +kernel⟩, ki_X12_bind, kv_X12_bind, _, rfl, rfl⟩
set_option maxRecDepth 20000 in
theorem j_X12_bind_58 (x0 x1 x2 s0 : Int) (rec_0 : Unit → hf_M Int) (hrec_0 : ∀ s : Unit, hf_J M_X12_bind 0 [(0, 2, x0), (1, 0, x1)] [] (rec_0 s)) : hf_J M_X12_bind 58 [(0, 2, x0), (1, 0, x1), (2, 0, x2)] [(0, s0)] (f_X12_bind_58 rec_0 x0 x1 x2 s0) := by
  refine hf_ist_n (pc := 58) (lv' := [(3, 0, s0), (0, 2, x0), (1, 0, x1), (2, 0, x2)]) rfl (by decide) rfl dX12_bind_58 ?_
  refine hf_ald_n (pc := 59) 1 rfl rfl dX12_bind_59 ?_
  refine hf_cV (pc := 60) (N := M_X12_dropHeld) (ts := []) (vs := []) (st := []) (fun r => [(0, r)]) (c_X12_dropHeld x0) cal_X12_dropHeld ml_X12_204 ⟨hf_le rfl, hf_le rfl⟩ (hf_le rfl) ⟨rfl, rfl⟩ rfl dX12_bind_60 (fun _ => rfl) (fun v60 => ?_)
  refine hf_ist (pc := 63) (lv' := [(4, 0, v60), (3, 0, s0), (0, 2, x0), (1, 0, x1), (2, 0, x2)]) (by decide) rfl dX12_bind_63 ?_
  refine hf_ald_n (pc := 65) 2 rfl rfl dX12_bind_65 ?_
  refine hf_ild_n (pc := 66) 4 rfl rfl dX12_bind_66 ?_
  refine hf_ild (pc := 67) 0 rfl dX12_bind_67 ?_
  refine hf_ild_n (pc := 69) 1 rfl rfl dX12_bind_69 ?_
  refine hf_cV (pc := 70) (N := M_X12_grown) (ts := [0, 0, 0]) (vs := [x2, v60, s0]) (st := []) (fun r => []) (c_X12_grown x0 x2 v60 s0) cal_X12_grown ml_X12_208 ⟨hf_le rfl, hf_le rfl⟩ (hf_le rfl) ⟨rfl, rfl⟩ rfl dX12_bind_70 (fun _ => rfl) (fun _ => ?_)
  refine hf_goto (pc := 73) 0 dX12_bind_73 rfl ?_
  exact hf_sub [2, 3] rfl (hrec_0 ())
set_option maxRecDepth 20000 in
theorem jb_X12_bind_0 (x0 x1 : Int) (rec_0 : Unit → hf_M Int) (hrec_0 : ∀ s : Unit, hf_J M_X12_bind 0 [(0, 2, x0), (1, 0, x1)] [] (rec_0 s)) : hf_J M_X12_bind 0 [(0, 2, x0), (1, 0, x1)] [] (B_X12_bind_0 x0 x1 rec_0) := by
  refine hf_ald_n (pc := 0) 0 rfl rfl dX12_bind_0 ?_
  refine hf_getf (pc := 1) fl_X12_198 dX12_bind_1 (fun v1 => ?_)
  refine hf_if_le (pc := 4) 76 dX12_bind_4 rfl ?_ ?_
  · exact hf_Jret (pc := 76) dX12_bind_76 (fun _ => rfl)
  · refine hf_ald_n (pc := 7) 0 rfl rfl dX12_bind_7 ?_
    refine hf_getf (pc := 8) fl_X12_62 dX12_bind_8 (fun v8 => ?_)
    refine hf_ald_n (pc := 11) 0 rfl rfl dX12_bind_11 ?_
    refine hf_getf (pc := 12) fl_X12_198 dX12_bind_12 (fun v12 => ?_)
    refine hf_iconst (pc := 15) dX12_bind_15 ?_
    refine hf_isub (pc := 16) dX12_bind_16 ?_
    refine hf_iald (pc := 17) dX12_bind_17 (fun v17 => ?_)
    refine hf_cS (pc := 18) (N := M_X12_rank) (ts := [0]) (vs := [v17]) (st := []) (fun r => [(0, r)]) (c_X12_rank v17) cal_X12_rank ml_X12_201 ⟨hf_le rfl, hf_le rfl⟩ (hf_le rfl) ⟨rfl, rfl⟩ rfl dX12_bind_18 (fun _ => rfl) (fun v18 => ?_)
    refine hf_ild_n (pc := 21) 1 rfl rfl dX12_bind_21 ?_
    refine hf_icmp_lt (pc := 22) 76 dX12_bind_22 rfl ?_ ?_
    · exact hf_Jret (pc := 76) dX12_bind_76 (fun _ => rfl)
    · refine hf_ald_n (pc := 25) 0 rfl rfl dX12_bind_25 ?_
      refine hf_dup (pc := 26) (by decide) dX12_bind_26 ?_
      refine hf_getf (pc := 27) fl_X12_198 dX12_bind_27 (fun v27 => ?_)
      refine hf_iconst (pc := 30) dX12_bind_30 ?_
      refine hf_isub (pc := 31) dX12_bind_31 ?_
      refine hf_putf (pc := 32) fl_X12_198 trivial dX12_bind_32 ?_
      refine hf_ald_n (pc := 35) 0 rfl rfl dX12_bind_35 ?_
      refine hf_getf (pc := 36) fl_X12_62 dX12_bind_36 (fun v36 => ?_)
      refine hf_ald_n (pc := 39) 0 rfl rfl dX12_bind_39 ?_
      refine hf_getf (pc := 40) fl_X12_198 dX12_bind_40 (fun v40 => ?_)
      refine hf_iald (pc := 43) dX12_bind_43 (fun v43 => ?_)
      refine hf_ist_n (pc := 44) (lv' := [(2, 0, v43), (0, 2, x0), (1, 0, x1)]) rfl (by decide) rfl dX12_bind_44 ?_
      refine hf_ild_n (pc := 45) 0 rfl rfl dX12_bind_45 ?_
      refine hf_iconst (pc := 46) dX12_bind_46 ?_
      refine hf_icmp_ne (pc := 47) 54 dX12_bind_47 rfl ?_ ?_
      · refine hf_ald_n (pc := 54) 1 rfl rfl dX12_bind_54 ?_
        refine hf_cV (pc := 55) (N := M_X12_dropHeld) (ts := []) (vs := []) (st := []) (fun r => [(0, r)]) (c_X12_dropHeld x0) cal_X12_dropHeld ml_X12_204 ⟨hf_le rfl, hf_le rfl⟩ (hf_le rfl) ⟨rfl, rfl⟩ rfl dX12_bind_55 (fun _ => rfl) (fun v55 => ?_)
        exact hf_sub [1, 2, 0] rfl (j_X12_bind_58 x0 x1 v43 v55 rec_0 hrec_0)
      · refine hf_iconst (pc := 50) dX12_bind_50 ?_
        refine hf_goto (pc := 51) 58 dX12_bind_51 rfl ?_
        exact hf_sub [1, 2, 0] rfl (j_X12_bind_58 x0 x1 v43 (-1) rec_0 hrec_0)
set_option maxRecDepth 20000 in
theorem j_X12_bind_0 (x0 x1 : Int) : hf_J M_X12_bind 0 [(0, 2, x0), (1, 0, x1)] [] (f_X12_bind_0 x0 x1) :=
  hf_Jfx (L := fun s => [(0, 2, x0), (1, 0, x1)]) (fun rec hrec s => jb_X12_bind_0 x0 x1 rec hrec) hf_N ()
set_option maxRecDepth 20000 in
theorem c_X12_bind (x0 x1 : Int) : hf_Met M_X12_bind [2, 0] [x0, x1] (f_X12_bind x0 x1) := by
  refine hf_met rfl (by decide) (by decide) (by decide) ?_
  show hf_J M_X12_bind 0 [(0, 2, x0), (1, 0, x1)] [] _
  exact hf_sub [0, 1] rfl (j_X12_bind_0 x0 x1)
/-! HighFallModel.signs()Z -/
def M_X12_signs : hf_D := (yX12_signs, cX12_signs, 2, some .boolean, 2, 47)
def f_X12_signs_121 (x0 x1 : Int) : hf_M Int :=
  hf_bd (hf_ob 12 x0 (f_X12_isCounted x0)) (fun v122 => hf_cz v122 (¬ v122 = 0) (hf_bd (hf_ob 12 x0 (f_X12_waitsFor x0 x1)) (fun _ => hf_bd (hf_pf 12 37 x0 1) (fun _ => hf_bd (f_X12_rank x1) (fun v142 => hf_ck (hf_inI v142 ∧ hf_inI 3) (hf_bd (hf_ret (if 3 ≤ v142 then 0 else 1)) (fun w154 => hf_ck (w154 = 0 ∨ w154 = 1) (hf_bd (hf_pf 12 38 x0 w154) (fun _ => hf_bd (hf_ob 12 x0 (f_X12_take x0)) (fun _ => hf_ret 1))))))))) (hf_ret 0))
def f_X12_signs_79 (x0 x1 s0 s1 : Int) : hf_M Int :=
  hf_bd (hf_ob 12 s0 (f_X12_bind s0 s1)) (fun _ => hf_bd (f_X12_rank x1) (fun v83 => hf_cb v83 4 (¬ v83 = 4) (f_X12_signs_121 x0 x1) (hf_bd (hf_gf 12 33 x0) (fun v91 => hf_cz v91 (v91 ≤ 0) (f_X12_signs_121 x0 x1) (hf_bd (hf_gf 12 31 x0) (fun v98 => hf_bd (hf_gf 12 33 x0) (fun v102 => hf_bd (hf_al 20 v98 (v102 - 1)) (fun v107 => hf_bd (f_X12_rank v107) (fun v108 => hf_cb v108 4 (¬ v108 = 4) (f_X12_signs_121 x0 x1) (hf_bd (hf_ob 12 x0 (f_X12_wrong x0 1)) (fun v117 => hf_ck (v117 = 0 ∨ v117 = 1) (hf_ret v117))))))))))))
def f_X12_signs_47 (x0 : Int) : hf_M Int :=
  hf_bd (hf_ob 12 x0 (f_X12_signMet x0)) (fun v48 => hf_cz v48 (¬ v48 = 0) (hf_bd (f_X12_rank v48) (fun v64 => hf_cb v64 4 (¬ v64 = 4) (hf_bd (f_X12_rank v48) (fun v76 => f_X12_signs_79 x0 v48 x0 v76)) (f_X12_signs_79 x0 v48 x0 5))) (hf_bd (hf_ob 12 x0 (f_X12_wrong x0 1)) (fun v58 => hf_ck (v58 = 0 ∨ v58 = 1) (hf_ret v58))))
def f_X12_signs (x0 : Int) : hf_M Int :=
  hf_bd (hf_ob 12 x0 (f_X12_isSign x0 41)) (fun v3 => hf_cz v3 (v3 = 0) (f_X12_signs_47 x0) (hf_bd (hf_gf 12 35 x0) (fun v10 => hf_cz v10 (v10 ≤ 0) (f_X12_signs_47 x0) (hf_bd (hf_ob 12 x0 (f_X12_bind x0 1)) (fun _ => hf_bd (hf_gf 12 33 x0) (fun v23 => hf_bd (hf_pf 12 33 x0 (v23 - 1)) (fun _ => hf_bd (hf_gf 12 35 x0) (fun v33 => hf_bd (hf_pf 12 35 x0 (v33 - 1)) (fun _ => hf_bd (hf_ob 12 x0 (f_X12_take x0)) (fun _ => hf_ret 1))))))))))
theorem cal_X12_signs : hf_cv M_X12_signs 12 0 := ⟨⟨ii_X12, kc_X12_signs, by decide, by decide, by decide +kernel⟩, ki_X12_signs, kv_X12_signs, _, rfl, rfl⟩
set_option maxRecDepth 20000 in
theorem j_X12_signs_121 (x0 x1 : Int) : hf_J M_X12_signs 121 [(0, 2, x0), (1, 0, x1)] [] (f_X12_signs_121 x0 x1) := by
  refine hf_ald_n (pc := 121) 0 rfl rfl dX12_signs_121 ?_
  refine hf_cV (pc := 122) (N := M_X12_isCounted) (ts := []) (vs := []) (st := []) (fun r => [(0, r)]) (c_X12_isCounted x0) cal_X12_isCounted ml_X12_234 ⟨hf_le rfl, hf_le rfl⟩ (hf_le rfl) ⟨rfl, rfl⟩ rfl dX12_signs_122 (fun _ => rfl) (fun v122 => ?_)
  refine hf_if_ne (pc := 125) 130 dX12_signs_125 rfl ?_ ?_
  · refine hf_ald_n (pc := 130) 0 rfl rfl dX12_signs_130 ?_
    refine hf_ild_n (pc := 131) 1 rfl rfl dX12_signs_131 ?_
    refine hf_cV (pc := 132) (N := M_X12_waitsFor) (ts := [0]) (vs := [x1]) (st := []) (fun r => []) (c_X12_waitsFor x0 x1) cal_X12_waitsFor ml_X12_221 ⟨hf_le rfl, hf_le rfl⟩ (hf_le rfl) ⟨rfl, rfl⟩ rfl dX12_signs_132 (fun _ => rfl) (fun _ => ?_)
    refine hf_ald_n (pc := 135) 0 rfl rfl dX12_signs_135 ?_
    refine hf_iconst (pc := 136) dX12_signs_136 ?_
    refine hf_putf (pc := 137) fl_X12_242 (Or.inr rfl) dX12_signs_137 ?_
    refine hf_ald_n (pc := 140) 0 rfl rfl dX12_signs_140 ?_
    refine hf_ild_n (pc := 141) 1 rfl rfl dX12_signs_141 ?_
    refine hf_cS (pc := 142) (N := M_X12_rank) (ts := [0]) (vs := [x1]) (st := [(2, x0)]) (fun r => [(0, r), (2, x0)]) (c_X12_rank x1) cal_X12_rank ml_X12_201 ⟨hf_le rfl, hf_le rfl⟩ (hf_le rfl) ⟨rfl, rfl⟩ rfl dX12_signs_142 (fun _ => rfl) (fun v142 => ?_)
    refine hf_iconst (pc := 145) dX12_signs_145 ?_
    refine hf_Jdib (pc := 146) (pcM := 154) (t := 0) (stM := [(2, x0)]) (fun w154 => ?_) (fun a1 a2 => ?_)
    · refine hf_Jck (fun hz => ?_)
      refine hf_putf (pc := 154) fl_X12_225 hz dX12_signs_154 ?_
      refine hf_ald_n (pc := 157) 0 rfl rfl dX12_signs_157 ?_
      refine hf_cV (pc := 158) (N := M_X12_take) (ts := []) (vs := []) (st := []) (fun r => []) (c_X12_take x0) cal_X12_take ml_X12_228 ⟨hf_le rfl, hf_le rfl⟩ (hf_le rfl) ⟨rfl, rfl⟩ rfl dX12_signs_158 (fun _ => rfl) (fun _ => ?_)
      refine hf_iconst (pc := 161) dX12_signs_161 ?_
      exact hf_Jret (pc := 162) (r := 1) ⟨dX12_signs_162, Or.inr rfl⟩ (fun _ => rfl)
    · refine hf_icmp_ge (pc := 146) 153 dX12_signs_146 rfl ?_ ?_
      · refine hf_iconst (pc := 153) dX12_signs_153 ?_
        exact a1
      · refine hf_iconst (pc := 149) dX12_signs_149 ?_
        refine hf_goto (pc := 150) 154 dX12_signs_150 rfl ?_
        exact a2
  · refine hf_iconst (pc := 128) dX12_signs_128 ?_
    exact hf_Jret (pc := 129) (r := 0) ⟨dX12_signs_129, Or.inl rfl⟩ (fun _ => rfl)
set_option maxRecDepth 20000 in
theorem j_X12_signs_79 (x0 x1 s0 s1 : Int) : hf_J M_X12_signs 79 [(0, 2, x0), (1, 0, x1)] [(0, s1), (2, s0)] (f_X12_signs_79 x0 x1 s0 s1) := by
  refine hf_cV (pc := 79) (N := M_X12_bind) (ts := [0]) (vs := [s1]) (st := []) (fun r => []) (c_X12_bind s0 s1) cal_X12_bind ml_X12_245 ⟨hf_le rfl, hf_le rfl⟩ (hf_le rfl) ⟨rfl, rfl⟩ rfl dX12_signs_79 (fun _ => rfl) (fun _ => ?_)
  refine hf_ild_n (pc := 82) 1 rfl rfl dX12_signs_82 ?_
  refine hf_cS (pc := 83) (N := M_X12_rank) (ts := [0]) (vs := [x1]) (st := []) (fun r => [(0, r)]) (c_X12_rank x1) cal_X12_rank ml_X12_201 ⟨hf_le rfl, hf_le rfl⟩ (hf_le rfl) ⟨rfl, rfl⟩ rfl dX12_signs_83 (fun _ => rfl) (fun v83 => ?_)
  refine hf_iconst (pc := 86) dX12_signs_86 ?_
  refine hf_icmp_ne (pc := 87) 121 dX12_signs_87 rfl ?_ ?_
  · exact hf_sub [0, 1] rfl (j_X12_signs_121 x0 x1)
  · refine hf_ald_n (pc := 90) 0 rfl rfl dX12_signs_90 ?_
    refine hf_getf (pc := 91) fl_X12_198 dX12_signs_91 (fun v91 => ?_)
    refine hf_if_le (pc := 94) 121 dX12_signs_94 rfl ?_ ?_
    · exact hf_sub [0, 1] rfl (j_X12_signs_121 x0 x1)
    · refine hf_ald_n (pc := 97) 0 rfl rfl dX12_signs_97 ?_
      refine hf_getf (pc := 98) fl_X12_62 dX12_signs_98 (fun v98 => ?_)
      refine hf_ald_n (pc := 101) 0 rfl rfl dX12_signs_101 ?_
      refine hf_getf (pc := 102) fl_X12_198 dX12_signs_102 (fun v102 => ?_)
      refine hf_iconst (pc := 105) dX12_signs_105 ?_
      refine hf_isub (pc := 106) dX12_signs_106 ?_
      refine hf_iald (pc := 107) dX12_signs_107 (fun v107 => ?_)
      refine hf_cS (pc := 108) (N := M_X12_rank) (ts := [0]) (vs := [v107]) (st := []) (fun r => [(0, r)]) (c_X12_rank v107) cal_X12_rank ml_X12_201 ⟨hf_le rfl, hf_le rfl⟩ (hf_le rfl) ⟨rfl, rfl⟩ rfl dX12_signs_108 (fun _ => rfl) (fun v108 => ?_)
      refine hf_iconst (pc := 111) dX12_signs_111 ?_
      refine hf_icmp_ne (pc := 112) 121 dX12_signs_112 rfl ?_ ?_
      · exact hf_sub [0, 1] rfl (j_X12_signs_121 x0 x1)
      · refine hf_ald_n (pc := 115) 0 rfl rfl dX12_signs_115 ?_
        refine hf_iconst (pc := 116) dX12_signs_116 ?_
        refine hf_cV (pc := 117) (N := M_X12_wrong) (ts := [0]) (vs := [1]) (st := []) (fun r => [(0, r)]) (c_X12_wrong x0 1) cal_X12_wrong ml_X12_189 ⟨hf_le rfl, hf_le rfl⟩ (hf_le rfl) ⟨rfl, rfl⟩ rfl dX12_signs_117 (fun _ => rfl) (fun v117 => ?_)
        refine hf_Jck (fun hz => ?_)
        exact hf_Jret (pc := 120) ⟨dX12_signs_120, hz⟩ (fun _ => rfl)
set_option maxRecDepth 20000 in
theorem j_X12_signs_47 (x0 : Int) : hf_J M_X12_signs 47 [(0, 2, x0)] [] (f_X12_signs_47 x0) := by
  refine hf_ald_n (pc := 47) 0 rfl rfl dX12_signs_47 ?_
  refine hf_cV (pc := 48) (N := M_X12_signMet) (ts := []) (vs := []) (st := []) (fun r => [(0, r)]) (c_X12_signMet x0) cal_X12_signMet ml_X12_248 ⟨hf_le rfl, hf_le rfl⟩ (hf_le rfl) ⟨rfl, rfl⟩ rfl dX12_signs_48 (fun _ => rfl) (fun v48 => ?_)
  refine hf_ist_n (pc := 51) (lv' := [(1, 0, v48), (0, 2, x0)]) rfl (by decide) rfl dX12_signs_51 ?_
  refine hf_ild_n (pc := 52) 0 rfl rfl dX12_signs_52 ?_
  refine hf_if_ne (pc := 53) 62 dX12_signs_53 rfl ?_ ?_
  · refine hf_ald_n (pc := 62) 1 rfl rfl dX12_signs_62 ?_
    refine hf_ild_n (pc := 63) 0 rfl rfl dX12_signs_63 ?_
    refine hf_cS (pc := 64) (N := M_X12_rank) (ts := [0]) (vs := [v48]) (st := [(2, x0)]) (fun r => [(0, r), (2, x0)]) (c_X12_rank v48) cal_X12_rank ml_X12_201 ⟨hf_le rfl, hf_le rfl⟩ (hf_le rfl) ⟨rfl, rfl⟩ rfl dX12_signs_64 (fun _ => rfl) (fun v64 => ?_)
    refine hf_iconst (pc := 67) dX12_signs_67 ?_
    refine hf_icmp_ne (pc := 68) 75 dX12_signs_68 rfl ?_ ?_
    · refine hf_ild_n (pc := 75) 0 rfl rfl dX12_signs_75 ?_
      refine hf_cS (pc := 76) (N := M_X12_rank) (ts := [0]) (vs := [v48]) (st := [(2, x0)]) (fun r => [(0, r), (2, x0)]) (c_X12_rank v48) cal_X12_rank ml_X12_201 ⟨hf_le rfl, hf_le rfl⟩ (hf_le rfl) ⟨rfl, rfl⟩ rfl dX12_signs_76 (fun _ => rfl) (fun v76 => ?_)
      exact hf_sub [1, 0] rfl (j_X12_signs_79 x0 v48 x0 v76)
    · refine hf_iconst (pc := 71) dX12_signs_71 ?_
      refine hf_goto (pc := 72) 79 dX12_signs_72 rfl ?_
      exact hf_sub [1, 0] rfl (j_X12_signs_79 x0 v48 x0 5)
  · refine hf_ald_n (pc := 56) 1 rfl rfl dX12_signs_56 ?_
    refine hf_iconst (pc := 57) dX12_signs_57 ?_
    refine hf_cV (pc := 58) (N := M_X12_wrong) (ts := [0]) (vs := [1]) (st := []) (fun r => [(0, r)]) (c_X12_wrong x0 1) cal_X12_wrong ml_X12_189 ⟨hf_le rfl, hf_le rfl⟩ (hf_le rfl) ⟨rfl, rfl⟩ rfl dX12_signs_58 (fun _ => rfl) (fun v58 => ?_)
    refine hf_Jck (fun hz => ?_)
    exact hf_Jret (pc := 61) ⟨dX12_signs_61, hz⟩ (fun _ => rfl)
set_option maxRecDepth 20000 in
theorem c_X12_signs (x0 : Int) : hf_Met M_X12_signs [2] [x0] (f_X12_signs x0) := by
  refine hf_met rfl (by decide) (by decide) (by decide) ?_
  show hf_J M_X12_signs 0 [(0, 2, x0)] [] _
  refine hf_ald_n (pc := 0) 0 rfl rfl dX12_signs_0 ?_
  refine hf_bipush (pc := 1) dX12_signs_1 (by decide) ?_
  refine hf_cV (pc := 3) (N := M_X12_isSign) (ts := [0]) (vs := [41]) (st := []) (fun r => [(0, r)]) (c_X12_isSign x0 41) cal_X12_isSign ml_X12_215 ⟨hf_le rfl, hf_le rfl⟩ (hf_le rfl) ⟨rfl, rfl⟩ rfl dX12_signs_3 (fun _ => rfl) (fun v3 => ?_)
  refine hf_if_eq (pc := 6) 47 dX12_signs_6 rfl ?_ ?_
  · exact hf_sub [0] rfl (j_X12_signs_47 x0)
  · refine hf_ald_n (pc := 9) 0 rfl rfl dX12_signs_9 ?_
    refine hf_getf (pc := 10) fl_X12_218 dX12_signs_10 (fun v10 => ?_)
    refine hf_if_le (pc := 13) 47 dX12_signs_13 rfl ?_ ?_
    · exact hf_sub [0] rfl (j_X12_signs_47 x0)
    · refine hf_ald_n (pc := 16) 0 rfl rfl dX12_signs_16 ?_
      refine hf_iconst (pc := 17) dX12_signs_17 ?_
      refine hf_cV (pc := 18) (N := M_X12_bind) (ts := [0]) (vs := [1]) (st := []) (fun r => []) (c_X12_bind x0 1) cal_X12_bind ml_X12_245 ⟨hf_le rfl, hf_le rfl⟩ (hf_le rfl) ⟨rfl, rfl⟩ rfl dX12_signs_18 (fun _ => rfl) (fun _ => ?_)
      refine hf_ald_n (pc := 21) 0 rfl rfl dX12_signs_21 ?_
      refine hf_dup (pc := 22) (by decide) dX12_signs_22 ?_
      refine hf_getf (pc := 23) fl_X12_198 dX12_signs_23 (fun v23 => ?_)
      refine hf_iconst (pc := 26) dX12_signs_26 ?_
      refine hf_isub (pc := 27) dX12_signs_27 ?_
      refine hf_putf (pc := 28) fl_X12_198 trivial dX12_signs_28 ?_
      refine hf_ald_n (pc := 31) 0 rfl rfl dX12_signs_31 ?_
      refine hf_dup (pc := 32) (by decide) dX12_signs_32 ?_
      refine hf_getf (pc := 33) fl_X12_218 dX12_signs_33 (fun v33 => ?_)
      refine hf_iconst (pc := 36) dX12_signs_36 ?_
      refine hf_isub (pc := 37) dX12_signs_37 ?_
      refine hf_putf (pc := 38) fl_X12_218 trivial dX12_signs_38 ?_
      refine hf_ald_n (pc := 41) 0 rfl rfl dX12_signs_41 ?_
      refine hf_cV (pc := 42) (N := M_X12_take) (ts := []) (vs := []) (st := []) (fun r => []) (c_X12_take x0) cal_X12_take ml_X12_228 ⟨hf_le rfl, hf_le rfl⟩ (hf_le rfl) ⟨rfl, rfl⟩ rfl dX12_signs_42 (fun _ => rfl) (fun _ => ?_)
      refine hf_iconst (pc := 45) dX12_signs_45 ?_
      exact hf_Jret (pc := 46) (r := 1) ⟨dX12_signs_46, Or.inr rfl⟩ (fun _ => rfl)
/-! HighFallModel.sumRead()Z -/
def M_X12_sumRead : hf_D := (yX12_sumRead, cX12_sumRead, 1, some .boolean, 3, 68)
def f_X12_sumRead_46 (rec_25 : Unit → hf_M Int) (x0 : Int) : hf_M Int :=
  hf_bd (hf_gf 12 37 x0) (fun v47 => hf_cz v47 (v47 = 0) (hf_bd (hf_ob 12 x0 (f_X12_signs x0)) (fun v64 => hf_cz v64 (¬ v64 = 0) (rec_25 ()) (hf_ret 0))) (hf_bd (hf_ob 12 x0 (f_X12_leafRead x0)) (fun v54 => hf_cz v54 (v54 = 0) (hf_ret 0) (rec_25 ()))))
def B_X12_sumRead_25 (x0 : Int) (rec_25 : Unit → hf_M Int) : hf_M Int :=
  hf_bd (hf_gf 12 37 x0) (fun v26 => hf_cz v26 (¬ v26 = 0) (f_X12_sumRead_46 rec_25 x0) (hf_bd (hf_gf 12 35 x0) (fun v33 => hf_cz v33 (0 < v33) (f_X12_sumRead_46 rec_25 x0) (hf_bd (hf_ob 12 x0 (f_X12_signMet x0)) (fun v40 => hf_cz v40 (v40 ≤ 0) (hf_bd (hf_ob 12 x0 (f_X12_bind x0 1)) (fun _ => hf_ret 1)) (f_X12_sumRead_46 rec_25 x0))))))
def f_X12_sumRead_25 (x0 : Int) : hf_M Int := hf_fx (fun rec s => B_X12_sumRead_25 x0 rec) hf_N ()
def f_X12_sumRead (x0 : Int) : hf_M Int :=
  hf_bd (hf_pf 12 33 x0 0) (fun _ => hf_bd (hf_pf 12 34 x0 0) (fun _ => hf_bd (hf_pf 12 35 x0 0) (fun _ => hf_bd (hf_pf 12 37 x0 1) (fun _ => hf_bd (hf_pf 12 38 x0 1) (fun _ => f_X12_sumRead_25 x0)))))
theorem cal_X12_sumRead : hf_cv M_X12_sumRead 12 0 := ⟨⟨ii_X12, kc_X12_sumRead, by decide, by decide, by decide +kernel⟩, ki_X12_sumRead, kv_X12_sumRead, _, rfl, rfl⟩
set_option maxRecDepth 20000 in
theorem j_X12_sumRead_46 (x0 : Int) (rec_25 : Unit → hf_M Int) (hrec_25 : ∀ s : Unit, hf_J M_X12_sumRead 25 [(0, 2, x0)] [] (rec_25 s)) : hf_J M_X12_sumRead 46 [(0, 2, x0)] [] (f_X12_sumRead_46 rec_25 x0) := by
  refine hf_ald_n (pc := 46) 0 rfl rfl dX12_sumRead_46 ?_
  refine hf_getf (pc := 47) fl_X12_242 dX12_sumRead_47 (fun v47 => ?_)
  refine hf_if_eq (pc := 50) 63 dX12_sumRead_50 rfl ?_ ?_
  · refine hf_ald_n (pc := 63) 0 rfl rfl dX12_sumRead_63 ?_
    refine hf_cV (pc := 64) (N := M_X12_signs) (ts := []) (vs := []) (st := []) (fun r => [(0, r)]) (c_X12_signs x0) cal_X12_signs ml_X12_254 ⟨hf_le rfl, hf_le rfl⟩ (hf_le rfl) ⟨rfl, rfl⟩ rfl dX12_sumRead_64 (fun _ => rfl) (fun v64 => ?_)
    refine hf_if_ne (pc := 67) 25 dX12_sumRead_67 rfl ?_ ?_
    · exact hf_sub [0] rfl (hrec_25 ())
    · refine hf_iconst (pc := 70) dX12_sumRead_70 ?_
      exact hf_Jret (pc := 71) (r := 0) ⟨dX12_sumRead_71, Or.inl rfl⟩ (fun _ => rfl)
  · refine hf_ald_n (pc := 53) 0 rfl rfl dX12_sumRead_53 ?_
    refine hf_cV (pc := 54) (N := M_X12_leafRead) (ts := []) (vs := []) (st := []) (fun r => [(0, r)]) (c_X12_leafRead x0) cal_X12_leafRead ml_X12_251 ⟨hf_le rfl, hf_le rfl⟩ (hf_le rfl) ⟨rfl, rfl⟩ rfl dX12_sumRead_54 (fun _ => rfl) (fun v54 => ?_)
    refine hf_if_eq (pc := 57) 70 dX12_sumRead_57 rfl ?_ ?_
    · refine hf_iconst (pc := 70) dX12_sumRead_70 ?_
      exact hf_Jret (pc := 71) (r := 0) ⟨dX12_sumRead_71, Or.inl rfl⟩ (fun _ => rfl)
    · refine hf_goto (pc := 60) 25 dX12_sumRead_60 rfl ?_
      exact hf_sub [0] rfl (hrec_25 ())
set_option maxRecDepth 20000 in
theorem jb_X12_sumRead_25 (x0 : Int) (rec_25 : Unit → hf_M Int) (hrec_25 : ∀ s : Unit, hf_J M_X12_sumRead 25 [(0, 2, x0)] [] (rec_25 s)) : hf_J M_X12_sumRead 25 [(0, 2, x0)] [] (B_X12_sumRead_25 x0 rec_25) := by
  refine hf_ald_n (pc := 25) 0 rfl rfl dX12_sumRead_25 ?_
  refine hf_getf (pc := 26) fl_X12_242 dX12_sumRead_26 (fun v26 => ?_)
  refine hf_if_ne (pc := 29) 46 dX12_sumRead_29 rfl ?_ ?_
  · exact hf_sub [0] rfl (j_X12_sumRead_46 x0 rec_25 hrec_25)
  · refine hf_ald_n (pc := 32) 0 rfl rfl dX12_sumRead_32 ?_
    refine hf_getf (pc := 33) fl_X12_218 dX12_sumRead_33 (fun v33 => ?_)
    refine hf_if_gt (pc := 36) 46 dX12_sumRead_36 rfl ?_ ?_
    · exact hf_sub [0] rfl (j_X12_sumRead_46 x0 rec_25 hrec_25)
    · refine hf_ald_n (pc := 39) 0 rfl rfl dX12_sumRead_39 ?_
      refine hf_cV (pc := 40) (N := M_X12_signMet) (ts := []) (vs := []) (st := []) (fun r => [(0, r)]) (c_X12_signMet x0) cal_X12_signMet ml_X12_248 ⟨hf_le rfl, hf_le rfl⟩ (hf_le rfl) ⟨rfl, rfl⟩ rfl dX12_sumRead_40 (fun _ => rfl) (fun v40 => ?_)
      refine hf_if_le (pc := 43) 72 dX12_sumRead_43 rfl ?_ ?_
      · refine hf_ald_n (pc := 72) 0 rfl rfl dX12_sumRead_72 ?_
        refine hf_iconst (pc := 73) dX12_sumRead_73 ?_
        refine hf_cV (pc := 74) (N := M_X12_bind) (ts := [0]) (vs := [1]) (st := []) (fun r => []) (c_X12_bind x0 1) cal_X12_bind ml_X12_245 ⟨hf_le rfl, hf_le rfl⟩ (hf_le rfl) ⟨rfl, rfl⟩ rfl dX12_sumRead_74 (fun _ => rfl) (fun _ => ?_)
        refine hf_iconst (pc := 77) dX12_sumRead_77 ?_
        exact hf_Jret (pc := 78) (r := 1) ⟨dX12_sumRead_78, Or.inr rfl⟩ (fun _ => rfl)
      · exact hf_sub [0] rfl (j_X12_sumRead_46 x0 rec_25 hrec_25)
set_option maxRecDepth 20000 in
theorem j_X12_sumRead_25 (x0 : Int) : hf_J M_X12_sumRead 25 [(0, 2, x0)] [] (f_X12_sumRead_25 x0) :=
  hf_Jfx (L := fun s => [(0, 2, x0)]) (fun rec hrec s => jb_X12_sumRead_25 x0 rec hrec) hf_N ()
set_option maxRecDepth 20000 in
theorem c_X12_sumRead (x0 : Int) : hf_Met M_X12_sumRead [2] [x0] (f_X12_sumRead x0) := by
  refine hf_met rfl (by decide) (by decide) (by decide) ?_
  show hf_J M_X12_sumRead 0 [(0, 2, x0)] [] _
  refine hf_ald_n (pc := 0) 0 rfl rfl dX12_sumRead_0 ?_
  refine hf_iconst (pc := 1) dX12_sumRead_1 ?_
  refine hf_putf (pc := 2) fl_X12_198 trivial dX12_sumRead_2 ?_
  refine hf_ald_n (pc := 5) 0 rfl rfl dX12_sumRead_5 ?_
  refine hf_iconst (pc := 6) dX12_sumRead_6 ?_
  refine hf_putf (pc := 7) fl_X12_195 trivial dX12_sumRead_7 ?_
  refine hf_ald_n (pc := 10) 0 rfl rfl dX12_sumRead_10 ?_
  refine hf_iconst (pc := 11) dX12_sumRead_11 ?_
  refine hf_putf (pc := 12) fl_X12_218 trivial dX12_sumRead_12 ?_
  refine hf_ald_n (pc := 15) 0 rfl rfl dX12_sumRead_15 ?_
  refine hf_iconst (pc := 16) dX12_sumRead_16 ?_
  refine hf_putf (pc := 17) fl_X12_242 (Or.inr rfl) dX12_sumRead_17 ?_
  refine hf_ald_n (pc := 20) 0 rfl rfl dX12_sumRead_20 ?_
  refine hf_iconst (pc := 21) dX12_sumRead_21 ?_
  refine hf_putf (pc := 22) fl_X12_225 (Or.inr rfl) dX12_sumRead_22 ?_
  exact hf_sub [0] rfl (j_X12_sumRead_25 x0)
/-! HighFallModel.lineRead()Z -/
def M_X12_lineRead : hf_D := (yX12_lineRead, cX12_lineRead, 3, some .boolean, 4, 88)
def f_X12_lineRead_162 (x0 x1 : Int) : hf_M Int :=
  hf_bd (hf_gf 12 28 x0) (fun v163 => hf_bd (hf_gf 12 22 x0) (fun v168 => hf_bd (hf_as 20 v163 x1 v168) (fun _ => hf_bd (hf_ob 12 x0 (f_X12_sumRead x0)) (fun v173 => hf_cz v173 (¬ v173 = 0) (hf_bd (hf_gf 12 29 x0) (fun v182 => hf_bd (hf_gf 12 22 x0) (fun v187 => hf_bd (hf_as 20 v182 x1 v187) (fun _ => hf_bd (hf_ob 12 x0 (f_X12_isSign x0 59)) (fun v194 => hf_cz v194 (¬ v194 = 0) (hf_bd (hf_gf 12 21 x0) (fun v208 => hf_bd (hf_pf 12 21 x0 (v208 + 1)) (fun _ => hf_bd (hf_ob 12 x0 (f_X12_take x0)) (fun _ => hf_ret 1)))) (hf_bd (hf_ob 12 x0 (f_X12_wrong x0 1)) (fun v202 => hf_ck (v202 = 0 ∨ v202 = 1) (hf_ret v202)))))))) (hf_ret 0)))))
def f_X12_lineRead_116 (x0 x1 : Int) : hf_M Int :=
  hf_bd (hf_gf 12 30 x0) (fun v117 => hf_bd (hf_as 20 v117 x1 (-1)) (fun _ => hf_bd (hf_ob 12 x0 (f_X12_isKey x0 1)) (fun v125 => hf_bd (hf_ob 12 x0 (f_X12_take x0)) (fun _ => hf_cz v125 (v125 = 0) (f_X12_lineRead_162 x0 x1) (hf_bd (hf_ob 12 x0 (f_X12_numberRead x0 0 2)) (fun v140 => hf_cz v140 (¬ v140 = 0) (hf_bd (hf_gf 12 30 x0) (fun v149 => hf_bd (hf_gf 12 16 x0) (fun v154 => hf_bd (hf_as 20 v149 x1 v154) (fun _ => hf_bd (hf_ob 12 x0 (f_X12_take x0)) (fun _ => f_X12_lineRead_162 x0 x1))))) (hf_ret 0)))))))
def f_X12_lineRead_84 (x0 x1 : Int) : hf_M Int :=
  hf_bd (hf_gf 12 27 x0) (fun v85 => hf_bd (hf_gf 12 22 x0) (fun v90 => hf_bd (hf_as 20 v85 x1 v90) (fun _ => hf_bd (hf_ob 12 x0 (f_X12_isKey x0 1)) (fun v96 => hf_cz v96 (¬ v96 = 0) (f_X12_lineRead_116 x0 x1) (hf_bd (hf_ob 12 x0 (f_X12_isKey x0 2)) (fun v104 => hf_cz v104 (¬ v104 = 0) (f_X12_lineRead_116 x0 x1) (hf_bd (hf_ob 12 x0 (f_X12_wrong x0 1)) (fun v112 => hf_ck (v112 = 0 ∨ v112 = 1) (hf_ret v112)))))))))
def f_X12_lineRead_30 (x0 : Int) : hf_M Int :=
  hf_bd (hf_gf 12 21 x0) (fun v31 => hf_cb v31 12 (¬ v31 = 12) (hf_bd (hf_gf 12 21 x0) (fun v48 => hf_bd (hf_ret (12 + v48)) (fun x1_52 => hf_bd (hf_gf 12 26 x0) (fun v54 => hf_bd (hf_gf 12 22 x0) (fun v59 => hf_bd (hf_as 20 v54 x1_52 v59) (fun _ => hf_bd (hf_ob 12 x0 (f_X12_isKey x0 0)) (fun v65 => hf_cz v65 (v65 = 0) (f_X12_lineRead_84 x0 x1_52) (hf_bd (hf_ob 12 x0 (f_X12_take x0)) (fun _ => hf_bd (hf_ob 12 x0 (f_X12_sumRead x0)) (fun v76 => hf_cz v76 (¬ v76 = 0) (f_X12_lineRead_84 x0 x1_52) (hf_ret 0))))))))))) (hf_bd (hf_ob 12 x0 (f_X12_wrong x0 2)) (fun v41 => hf_ck (v41 = 0 ∨ v41 = 1) (hf_ret v41))))
def f_X12_lineRead (x0 : Int) : hf_M Int :=
  hf_bd (hf_ob 12 x0 (f_X12_isKey x0 0)) (fun v2 => hf_cz v2 (¬ v2 = 0) (f_X12_lineRead_30 x0) (hf_bd (hf_ob 12 x0 (f_X12_isKey x0 1)) (fun v10 => hf_cz v10 (¬ v10 = 0) (f_X12_lineRead_30 x0) (hf_bd (hf_ob 12 x0 (f_X12_isKey x0 2)) (fun v18 => hf_cz v18 (¬ v18 = 0) (f_X12_lineRead_30 x0) (hf_bd (hf_ob 12 x0 (f_X12_wrong x0 1)) (fun v26 => hf_ck (v26 = 0 ∨ v26 = 1) (hf_ret v26))))))))
theorem cal_X12_lineRead : hf_cv M_X12_lineRead 12 0 := ⟨⟨ii_X12, kc_X12_lineRead, by decide, by decide, by decide +kernel⟩, ki_X12_lineRead, kv_X12_lineRead, _, rfl, rfl⟩
set_option maxRecDepth 20000 in
theorem j_X12_lineRead_162 (x0 x1 : Int) : hf_J M_X12_lineRead 162 [(0, 2, x0), (1, 0, x1)] [] (f_X12_lineRead_162 x0 x1) := by
  refine hf_ald_n (pc := 162) 0 rfl rfl dX12_lineRead_162 ?_
  refine hf_getf (pc := 163) fl_X12_53 dX12_lineRead_163 (fun v163 => ?_)
  refine hf_ild_n (pc := 166) 1 rfl rfl dX12_lineRead_166 ?_
  refine hf_ald_n (pc := 167) 0 rfl rfl dX12_lineRead_167 ?_
  refine hf_getf (pc := 168) fl_X12_192 dX12_lineRead_168 (fun v168 => ?_)
  refine hf_iast (pc := 171) dX12_lineRead_171 ?_
  refine hf_ald_n (pc := 172) 0 rfl rfl dX12_lineRead_172 ?_
  refine hf_cV (pc := 173) (N := M_X12_sumRead) (ts := []) (vs := []) (st := []) (fun r => [(0, r)]) (c_X12_sumRead x0) cal_X12_sumRead ml_X12_260 ⟨hf_le rfl, hf_le rfl⟩ (hf_le rfl) ⟨rfl, rfl⟩ rfl dX12_lineRead_173 (fun _ => rfl) (fun v173 => ?_)
  refine hf_if_ne (pc := 176) 181 dX12_lineRead_176 rfl ?_ ?_
  · refine hf_ald_n (pc := 181) 0 rfl rfl dX12_lineRead_181 ?_
    refine hf_getf (pc := 182) fl_X12_56 dX12_lineRead_182 (fun v182 => ?_)
    refine hf_ild_n (pc := 185) 1 rfl rfl dX12_lineRead_185 ?_
    refine hf_ald_n (pc := 186) 0 rfl rfl dX12_lineRead_186 ?_
    refine hf_getf (pc := 187) fl_X12_192 dX12_lineRead_187 (fun v187 => ?_)
    refine hf_iast (pc := 190) dX12_lineRead_190 ?_
    refine hf_ald_n (pc := 191) 0 rfl rfl dX12_lineRead_191 ?_
    refine hf_bipush (pc := 192) dX12_lineRead_192 (by decide) ?_
    refine hf_cV (pc := 194) (N := M_X12_isSign) (ts := [0]) (vs := [59]) (st := []) (fun r => [(0, r)]) (c_X12_isSign x0 59) cal_X12_isSign ml_X12_215 ⟨hf_le rfl, hf_le rfl⟩ (hf_le rfl) ⟨rfl, rfl⟩ rfl dX12_lineRead_194 (fun _ => rfl) (fun v194 => ?_)
    refine hf_if_ne (pc := 197) 206 dX12_lineRead_197 rfl ?_ ?_
    · refine hf_ald_n (pc := 206) 0 rfl rfl dX12_lineRead_206 ?_
      refine hf_dup (pc := 207) (by decide) dX12_lineRead_207 ?_
      refine hf_getf (pc := 208) fl_X12_257 dX12_lineRead_208 (fun v208 => ?_)
      refine hf_iconst (pc := 211) dX12_lineRead_211 ?_
      refine hf_iadd (pc := 212) dX12_lineRead_212 ?_
      refine hf_putf (pc := 213) fl_X12_257 trivial dX12_lineRead_213 ?_
      refine hf_ald_n (pc := 216) 0 rfl rfl dX12_lineRead_216 ?_
      refine hf_cV (pc := 217) (N := M_X12_take) (ts := []) (vs := []) (st := []) (fun r => []) (c_X12_take x0) cal_X12_take ml_X12_228 ⟨hf_le rfl, hf_le rfl⟩ (hf_le rfl) ⟨rfl, rfl⟩ rfl dX12_lineRead_217 (fun _ => rfl) (fun _ => ?_)
      refine hf_iconst (pc := 220) dX12_lineRead_220 ?_
      exact hf_Jret (pc := 221) (r := 1) ⟨dX12_lineRead_221, Or.inr rfl⟩ (fun _ => rfl)
    · refine hf_ald_n (pc := 200) 0 rfl rfl dX12_lineRead_200 ?_
      refine hf_iconst (pc := 201) dX12_lineRead_201 ?_
      refine hf_cV (pc := 202) (N := M_X12_wrong) (ts := [0]) (vs := [1]) (st := []) (fun r => [(0, r)]) (c_X12_wrong x0 1) cal_X12_wrong ml_X12_189 ⟨hf_le rfl, hf_le rfl⟩ (hf_le rfl) ⟨rfl, rfl⟩ rfl dX12_lineRead_202 (fun _ => rfl) (fun v202 => ?_)
      refine hf_Jck (fun hz => ?_)
      exact hf_Jret (pc := 205) ⟨dX12_lineRead_205, hz⟩ (fun _ => rfl)
  · refine hf_iconst (pc := 179) dX12_lineRead_179 ?_
    exact hf_Jret (pc := 180) (r := 0) ⟨dX12_lineRead_180, Or.inl rfl⟩ (fun _ => rfl)
set_option maxRecDepth 20000 in
theorem j_X12_lineRead_116 (x0 x1 : Int) : hf_J M_X12_lineRead 116 [(0, 2, x0), (1, 0, x1)] [] (f_X12_lineRead_116 x0 x1) := by
  refine hf_ald_n (pc := 116) 0 rfl rfl dX12_lineRead_116 ?_
  refine hf_getf (pc := 117) fl_X12_59 dX12_lineRead_117 (fun v117 => ?_)
  refine hf_ild_n (pc := 120) 1 rfl rfl dX12_lineRead_120 ?_
  refine hf_iconst (pc := 121) dX12_lineRead_121 ?_
  refine hf_iast (pc := 122) dX12_lineRead_122 ?_
  refine hf_ald_n (pc := 123) 0 rfl rfl dX12_lineRead_123 ?_
  refine hf_iconst (pc := 124) dX12_lineRead_124 ?_
  refine hf_cV (pc := 125) (N := M_X12_isKey) (ts := [0]) (vs := [1]) (st := []) (fun r => [(0, r)]) (c_X12_isKey x0 1) cal_X12_isKey ml_X12_231 ⟨hf_le rfl, hf_le rfl⟩ (hf_le rfl) ⟨rfl, rfl⟩ rfl dX12_lineRead_125 (fun _ => rfl) (fun v125 => ?_)
  refine hf_ist_n (pc := 128) (lv' := [(2, 0, v125), (0, 2, x0), (1, 0, x1)]) rfl (by decide) rfl dX12_lineRead_128 ?_
  refine hf_ald_n (pc := 129) 1 rfl rfl dX12_lineRead_129 ?_
  refine hf_cV (pc := 130) (N := M_X12_take) (ts := []) (vs := []) (st := []) (fun r => []) (c_X12_take x0) cal_X12_take ml_X12_228 ⟨hf_le rfl, hf_le rfl⟩ (hf_le rfl) ⟨rfl, rfl⟩ rfl dX12_lineRead_130 (fun _ => rfl) (fun _ => ?_)
  refine hf_ild_n (pc := 133) 0 rfl rfl dX12_lineRead_133 ?_
  refine hf_if_eq (pc := 134) 162 dX12_lineRead_134 rfl ?_ ?_
  · exact hf_sub [1, 2] rfl (j_X12_lineRead_162 x0 x1)
  · refine hf_ald_n (pc := 137) 1 rfl rfl dX12_lineRead_137 ?_
    refine hf_iconst (pc := 138) dX12_lineRead_138 ?_
    refine hf_iconst (pc := 139) dX12_lineRead_139 ?_
    refine hf_cV (pc := 140) (N := M_X12_numberRead) (ts := [0, 0]) (vs := [0, 2]) (st := []) (fun r => [(0, r)]) (c_X12_numberRead x0 0 2) cal_X12_numberRead ml_X12_238 ⟨hf_le rfl, hf_le rfl⟩ (hf_le rfl) ⟨rfl, rfl⟩ rfl dX12_lineRead_140 (fun _ => rfl) (fun v140 => ?_)
    refine hf_if_ne (pc := 143) 148 dX12_lineRead_143 rfl ?_ ?_
    · refine hf_ald_n (pc := 148) 1 rfl rfl dX12_lineRead_148 ?_
      refine hf_getf (pc := 149) fl_X12_59 dX12_lineRead_149 (fun v149 => ?_)
      refine hf_ild_n (pc := 152) 2 rfl rfl dX12_lineRead_152 ?_
      refine hf_ald_n (pc := 153) 1 rfl rfl dX12_lineRead_153 ?_
      refine hf_getf (pc := 154) fl_X12_180 dX12_lineRead_154 (fun v154 => ?_)
      refine hf_iast (pc := 157) dX12_lineRead_157 ?_
      refine hf_ald_n (pc := 158) 1 rfl rfl dX12_lineRead_158 ?_
      refine hf_cV (pc := 159) (N := M_X12_take) (ts := []) (vs := []) (st := []) (fun r => []) (c_X12_take x0) cal_X12_take ml_X12_228 ⟨hf_le rfl, hf_le rfl⟩ (hf_le rfl) ⟨rfl, rfl⟩ rfl dX12_lineRead_159 (fun _ => rfl) (fun _ => ?_)
      exact hf_sub [1, 2] rfl (j_X12_lineRead_162 x0 x1)
    · refine hf_iconst (pc := 146) dX12_lineRead_146 ?_
      exact hf_Jret (pc := 147) (r := 0) ⟨dX12_lineRead_147, Or.inl rfl⟩ (fun _ => rfl)
set_option maxRecDepth 20000 in
theorem j_X12_lineRead_84 (x0 x1 : Int) : hf_J M_X12_lineRead 84 [(0, 2, x0), (1, 0, x1)] [] (f_X12_lineRead_84 x0 x1) := by
  refine hf_ald_n (pc := 84) 0 rfl rfl dX12_lineRead_84 ?_
  refine hf_getf (pc := 85) fl_X12_50 dX12_lineRead_85 (fun v85 => ?_)
  refine hf_ild_n (pc := 88) 1 rfl rfl dX12_lineRead_88 ?_
  refine hf_ald_n (pc := 89) 0 rfl rfl dX12_lineRead_89 ?_
  refine hf_getf (pc := 90) fl_X12_192 dX12_lineRead_90 (fun v90 => ?_)
  refine hf_iast (pc := 93) dX12_lineRead_93 ?_
  refine hf_ald_n (pc := 94) 0 rfl rfl dX12_lineRead_94 ?_
  refine hf_iconst (pc := 95) dX12_lineRead_95 ?_
  refine hf_cV (pc := 96) (N := M_X12_isKey) (ts := [0]) (vs := [1]) (st := []) (fun r => [(0, r)]) (c_X12_isKey x0 1) cal_X12_isKey ml_X12_231 ⟨hf_le rfl, hf_le rfl⟩ (hf_le rfl) ⟨rfl, rfl⟩ rfl dX12_lineRead_96 (fun _ => rfl) (fun v96 => ?_)
  refine hf_if_ne (pc := 99) 116 dX12_lineRead_99 rfl ?_ ?_
  · exact hf_sub [0, 1] rfl (j_X12_lineRead_116 x0 x1)
  · refine hf_ald_n (pc := 102) 0 rfl rfl dX12_lineRead_102 ?_
    refine hf_iconst (pc := 103) dX12_lineRead_103 ?_
    refine hf_cV (pc := 104) (N := M_X12_isKey) (ts := [0]) (vs := [2]) (st := []) (fun r => [(0, r)]) (c_X12_isKey x0 2) cal_X12_isKey ml_X12_231 ⟨hf_le rfl, hf_le rfl⟩ (hf_le rfl) ⟨rfl, rfl⟩ rfl dX12_lineRead_104 (fun _ => rfl) (fun v104 => ?_)
    refine hf_if_ne (pc := 107) 116 dX12_lineRead_107 rfl ?_ ?_
    · exact hf_sub [0, 1] rfl (j_X12_lineRead_116 x0 x1)
    · refine hf_ald_n (pc := 110) 0 rfl rfl dX12_lineRead_110 ?_
      refine hf_iconst (pc := 111) dX12_lineRead_111 ?_
      refine hf_cV (pc := 112) (N := M_X12_wrong) (ts := [0]) (vs := [1]) (st := []) (fun r => [(0, r)]) (c_X12_wrong x0 1) cal_X12_wrong ml_X12_189 ⟨hf_le rfl, hf_le rfl⟩ (hf_le rfl) ⟨rfl, rfl⟩ rfl dX12_lineRead_112 (fun _ => rfl) (fun v112 => ?_)
      refine hf_Jck (fun hz => ?_)
      exact hf_Jret (pc := 115) ⟨dX12_lineRead_115, hz⟩ (fun _ => rfl)
set_option maxRecDepth 20000 in
theorem j_X12_lineRead_30 (x0 : Int) : hf_J M_X12_lineRead 30 [(0, 2, x0)] [] (f_X12_lineRead_30 x0) := by
  refine hf_ald_n (pc := 30) 0 rfl rfl dX12_lineRead_30 ?_
  refine hf_getf (pc := 31) fl_X12_257 dX12_lineRead_31 (fun v31 => ?_)
  refine hf_bipush (pc := 34) dX12_lineRead_34 (by decide) ?_
  refine hf_icmp_ne (pc := 36) 45 dX12_lineRead_36 rfl ?_ ?_
  · refine hf_bipush (pc := 45) dX12_lineRead_45 (by decide) ?_
    refine hf_ald_n (pc := 47) 0 rfl rfl dX12_lineRead_47 ?_
    refine hf_getf (pc := 48) fl_X12_257 dX12_lineRead_48 (fun v48 => ?_)
    refine hf_iadd (pc := 51) dX12_lineRead_51 ?_
    refine hf_ist_nB (pc := 52) (fun y => [(1, 0, y), (0, 2, x0)]) rfl (by decide) (fun _ => rfl) dX12_lineRead_52 (fun x1_52 => ?_)
    refine hf_ald_n (pc := 53) 1 rfl rfl dX12_lineRead_53 ?_
    refine hf_getf (pc := 54) fl_X12_47 dX12_lineRead_54 (fun v54 => ?_)
    refine hf_ild_n (pc := 57) 0 rfl rfl dX12_lineRead_57 ?_
    refine hf_ald_n (pc := 58) 1 rfl rfl dX12_lineRead_58 ?_
    refine hf_getf (pc := 59) fl_X12_192 dX12_lineRead_59 (fun v59 => ?_)
    refine hf_iast (pc := 62) dX12_lineRead_62 ?_
    refine hf_ald_n (pc := 63) 1 rfl rfl dX12_lineRead_63 ?_
    refine hf_iconst (pc := 64) dX12_lineRead_64 ?_
    refine hf_cV (pc := 65) (N := M_X12_isKey) (ts := [0]) (vs := [0]) (st := []) (fun r => [(0, r)]) (c_X12_isKey x0 0) cal_X12_isKey ml_X12_231 ⟨hf_le rfl, hf_le rfl⟩ (hf_le rfl) ⟨rfl, rfl⟩ rfl dX12_lineRead_65 (fun _ => rfl) (fun v65 => ?_)
    refine hf_if_eq (pc := 68) 84 dX12_lineRead_68 rfl ?_ ?_
    · exact hf_sub [1, 0] rfl (j_X12_lineRead_84 x0 x1_52)
    · refine hf_ald_n (pc := 71) 1 rfl rfl dX12_lineRead_71 ?_
      refine hf_cV (pc := 72) (N := M_X12_take) (ts := []) (vs := []) (st := []) (fun r => []) (c_X12_take x0) cal_X12_take ml_X12_228 ⟨hf_le rfl, hf_le rfl⟩ (hf_le rfl) ⟨rfl, rfl⟩ rfl dX12_lineRead_72 (fun _ => rfl) (fun _ => ?_)
      refine hf_ald_n (pc := 75) 1 rfl rfl dX12_lineRead_75 ?_
      refine hf_cV (pc := 76) (N := M_X12_sumRead) (ts := []) (vs := []) (st := []) (fun r => [(0, r)]) (c_X12_sumRead x0) cal_X12_sumRead ml_X12_260 ⟨hf_le rfl, hf_le rfl⟩ (hf_le rfl) ⟨rfl, rfl⟩ rfl dX12_lineRead_76 (fun _ => rfl) (fun v76 => ?_)
      refine hf_if_ne (pc := 79) 84 dX12_lineRead_79 rfl ?_ ?_
      · exact hf_sub [1, 0] rfl (j_X12_lineRead_84 x0 x1_52)
      · refine hf_iconst (pc := 82) dX12_lineRead_82 ?_
        exact hf_Jret (pc := 83) (r := 0) ⟨dX12_lineRead_83, Or.inl rfl⟩ (fun _ => rfl)
  · refine hf_ald_n (pc := 39) 0 rfl rfl dX12_lineRead_39 ?_
    refine hf_iconst (pc := 40) dX12_lineRead_40 ?_
    refine hf_cV (pc := 41) (N := M_X12_wrong) (ts := [0]) (vs := [2]) (st := []) (fun r => [(0, r)]) (c_X12_wrong x0 2) cal_X12_wrong ml_X12_189 ⟨hf_le rfl, hf_le rfl⟩ (hf_le rfl) ⟨rfl, rfl⟩ rfl dX12_lineRead_41 (fun _ => rfl) (fun v41 => ?_)
    refine hf_Jck (fun hz => ?_)
    exact hf_Jret (pc := 44) ⟨dX12_lineRead_44, hz⟩ (fun _ => rfl)
set_option maxRecDepth 20000 in
theorem c_X12_lineRead (x0 : Int) : hf_Met M_X12_lineRead [2] [x0] (f_X12_lineRead x0) := by
  refine hf_met rfl (by decide) (by decide) (by decide) ?_
  show hf_J M_X12_lineRead 0 [(0, 2, x0)] [] _
  refine hf_ald_n (pc := 0) 0 rfl rfl dX12_lineRead_0 ?_
  refine hf_iconst (pc := 1) dX12_lineRead_1 ?_
  refine hf_cV (pc := 2) (N := M_X12_isKey) (ts := [0]) (vs := [0]) (st := []) (fun r => [(0, r)]) (c_X12_isKey x0 0) cal_X12_isKey ml_X12_231 ⟨hf_le rfl, hf_le rfl⟩ (hf_le rfl) ⟨rfl, rfl⟩ rfl dX12_lineRead_2 (fun _ => rfl) (fun v2 => ?_)
  refine hf_if_ne (pc := 5) 30 dX12_lineRead_5 rfl ?_ ?_
  · exact hf_sub [0] rfl (j_X12_lineRead_30 x0)
  · refine hf_ald_n (pc := 8) 0 rfl rfl dX12_lineRead_8 ?_
    refine hf_iconst (pc := 9) dX12_lineRead_9 ?_
    refine hf_cV (pc := 10) (N := M_X12_isKey) (ts := [0]) (vs := [1]) (st := []) (fun r => [(0, r)]) (c_X12_isKey x0 1) cal_X12_isKey ml_X12_231 ⟨hf_le rfl, hf_le rfl⟩ (hf_le rfl) ⟨rfl, rfl⟩ rfl dX12_lineRead_10 (fun _ => rfl) (fun v10 => ?_)
    refine hf_if_ne (pc := 13) 30 dX12_lineRead_13 rfl ?_ ?_
    · exact hf_sub [0] rfl (j_X12_lineRead_30 x0)
    · refine hf_ald_n (pc := 16) 0 rfl rfl dX12_lineRead_16 ?_
      refine hf_iconst (pc := 17) dX12_lineRead_17 ?_
      refine hf_cV (pc := 18) (N := M_X12_isKey) (ts := [0]) (vs := [2]) (st := []) (fun r => [(0, r)]) (c_X12_isKey x0 2) cal_X12_isKey ml_X12_231 ⟨hf_le rfl, hf_le rfl⟩ (hf_le rfl) ⟨rfl, rfl⟩ rfl dX12_lineRead_18 (fun _ => rfl) (fun v18 => ?_)
      refine hf_if_ne (pc := 21) 30 dX12_lineRead_21 rfl ?_ ?_
      · exact hf_sub [0] rfl (j_X12_lineRead_30 x0)
      · refine hf_ald_n (pc := 24) 0 rfl rfl dX12_lineRead_24 ?_
        refine hf_iconst (pc := 25) dX12_lineRead_25 ?_
        refine hf_cV (pc := 26) (N := M_X12_wrong) (ts := [0]) (vs := [1]) (st := []) (fun r => [(0, r)]) (c_X12_wrong x0 1) cal_X12_wrong ml_X12_189 ⟨hf_le rfl, hf_le rfl⟩ (hf_le rfl) ⟨rfl, rfl⟩ rfl dX12_lineRead_26 (fun _ => rfl) (fun v26 => ?_)
        refine hf_Jck (fun hz => ?_)
        exact hf_Jret (pc := 29) ⟨dX12_lineRead_29, hz⟩ (fun _ => rfl)
/-! HighFallModel.plan(I)I -/
def M_X12_plan : hf_D := (yX12_plan, cX12_plan, 3, some .int, 5, 110)
def B_X12_plan_162 (x0 : Int) (rec_162 : Int → hf_M Int) (x2 : Int) : hf_M Int :=
  hf_cb x2 12 (12 ≤ x2) (hf_bd (hf_gf 12 19 x0) (fun v250 => hf_ret v250)) (hf_bd (hf_gf 12 26 x0) (fun v169 => hf_bd (hf_gf 12 26 x0) (fun v174 => hf_bd (hf_al 20 v174 (12 + x2)) (fun v181 => hf_bd (hf_as 20 v169 x2 v181) (fun _ => hf_bd (hf_gf 12 27 x0) (fun v184 => hf_bd (hf_gf 12 27 x0) (fun v189 => hf_bd (hf_al 20 v189 (12 + x2)) (fun v196 => hf_bd (hf_as 20 v184 x2 v196) (fun _ => hf_bd (hf_gf 12 28 x0) (fun v199 => hf_bd (hf_gf 12 28 x0) (fun v204 => hf_bd (hf_al 20 v204 (12 + x2)) (fun v211 => hf_bd (hf_as 20 v199 x2 v211) (fun _ => hf_bd (hf_gf 12 29 x0) (fun v214 => hf_bd (hf_gf 12 29 x0) (fun v219 => hf_bd (hf_al 20 v219 (12 + x2)) (fun v226 => hf_bd (hf_as 20 v214 x2 v226) (fun _ => hf_bd (hf_gf 12 30 x0) (fun v229 => hf_bd (hf_gf 12 30 x0) (fun v234 => hf_bd (hf_al 20 v234 (12 + x2)) (fun v241 => hf_bd (hf_as 20 v229 x2 v241) (fun _ => hf_bd (hf_ret (x2 + 1)) (fun x2_243 => rec_162 x2_243))))))))))))))))))))))
def f_X12_plan_162 (x0 x2 : Int) : hf_M Int := hf_fx (fun rec s => B_X12_plan_162 x0 rec s) hf_N x2
def B_X12_plan_103 (x0 : Int) (rec_103 : Int → hf_M Int) (x2 : Int) : hf_M Int :=
  hf_cb x2 64 (64 ≤ x2) (f_X12_plan_162 x0 0) (hf_bd (hf_gf 12 23 x0) (fun v110 => hf_bd (hf_gf 12 23 x0) (fun v115 => hf_bd (hf_al 20 v115 (64 + x2)) (fun v122 => hf_bd (hf_as 20 v110 x2 v122) (fun _ => hf_bd (hf_gf 12 24 x0) (fun v125 => hf_bd (hf_gf 12 24 x0) (fun v130 => hf_bd (hf_al 20 v130 (64 + x2)) (fun v137 => hf_bd (hf_as 20 v125 x2 v137) (fun _ => hf_bd (hf_gf 12 25 x0) (fun v140 => hf_bd (hf_gf 12 25 x0) (fun v145 => hf_bd (hf_al 20 v145 (64 + x2)) (fun v152 => hf_bd (hf_as 20 v140 x2 v152) (fun _ => hf_bd (hf_ret (x2 + 1)) (fun x2_154 => rec_103 x2_154))))))))))))))
def f_X12_plan_103 (x0 x2 : Int) : hf_M Int := hf_fx (fun rec s => B_X12_plan_103 x0 rec s) hf_N x2
def B_X12_plan_64 (x0 : Int) (rec_64 : Unit → hf_M Int) : hf_M Int :=
  hf_bd (hf_gf 12 15 x0) (fun v65 => hf_cz v65 (v65 = 0) (hf_bd (hf_pf 12 18 x0 1) (fun _ => hf_bd (hf_gf 12 21 x0) (fun v87 => hf_bd (hf_pf 12 19 x0 v87) (fun _ => hf_bd (hf_gf 12 22 x0) (fun v95 => hf_bd (hf_pf 12 20 x0 v95) (fun _ => f_X12_plan_103 x0 0)))))) (hf_bd (hf_ob 12 x0 (f_X12_lineRead x0)) (fun v72 => hf_cz v72 (¬ v72 = 0) (rec_64 ()) (hf_ret (-1)))))
def f_X12_plan_64 (x0 : Int) : hf_M Int := hf_fx (fun rec s => B_X12_plan_64 x0 rec) hf_N ()
def f_X12_plan (x0 x1 : Int) : hf_M Int :=
  hf_bd (hf_pf 12 2 x0 0) (fun _ => hf_cz x1 (x1 < 0) (hf_ret (-2)) (hf_bd (hf_gf 12 1 x0) (fun v11 => hf_cb x1 v11 (x1 ≤ v11) (hf_bd (hf_pf 12 13 x0 x1) (fun _ => hf_bd (hf_pf 12 1 x0 0) (fun _ => hf_bd (hf_pf 12 11 x0 0) (fun _ => hf_bd (hf_pf 12 12 x0 (-1)) (fun _ => hf_bd (hf_pf 12 14 x0 0) (fun _ => hf_bd (hf_pf 12 21 x0 0) (fun _ => hf_bd (hf_pf 12 22 x0 0) (fun _ => hf_bd (hf_pf 12 36 x0 0) (fun _ => hf_bd (hf_ob 12 x0 (f_X12_take x0)) (fun _ => f_X12_plan_64 x0)))))))))) (hf_ret (-2)))))
theorem cal_X12_plan : hf_cv M_X12_plan 12 1 := ⟨⟨ii_X12, kc_X12_plan, by decide, by decide, by decide +kernel⟩, ki_X12_plan, kv_X12_plan, _, rfl, rfl⟩
set_option maxRecDepth 20000 in
theorem jb_X12_plan_162 (x0 : Int) (rec_162 : Int → hf_M Int) (hrec_162 : ∀ s : Int, hf_J M_X12_plan 162 [(0, 2, x0), (2, 0, s)] [] (rec_162 s)) (x2 : Int) : hf_J M_X12_plan 162 [(0, 2, x0), (2, 0, x2)] [] (B_X12_plan_162 x0 rec_162 x2) := by
  refine hf_ild_n (pc := 162) 1 rfl rfl dX12_plan_162 ?_
  refine hf_bipush (pc := 163) dX12_plan_163 (by decide) ?_
  refine hf_icmp_ge (pc := 165) 249 dX12_plan_165 rfl ?_ ?_
  · refine hf_ald_n (pc := 249) 0 rfl rfl dX12_plan_249 ?_
    refine hf_getf (pc := 250) fl_X12_269 dX12_plan_250 (fun v250 => ?_)
    exact hf_Jret (pc := 253) dX12_plan_253 (fun _ => rfl)
  · refine hf_ald_n (pc := 168) 0 rfl rfl dX12_plan_168 ?_
    refine hf_getf (pc := 169) fl_X12_47 dX12_plan_169 (fun v169 => ?_)
    refine hf_ild_n (pc := 172) 1 rfl rfl dX12_plan_172 ?_
    refine hf_ald_n (pc := 173) 0 rfl rfl dX12_plan_173 ?_
    refine hf_getf (pc := 174) fl_X12_47 dX12_plan_174 (fun v174 => ?_)
    refine hf_bipush (pc := 177) dX12_plan_177 (by decide) ?_
    refine hf_ild_n (pc := 179) 1 rfl rfl dX12_plan_179 ?_
    refine hf_iadd (pc := 180) dX12_plan_180 ?_
    refine hf_iald (pc := 181) dX12_plan_181 (fun v181 => ?_)
    refine hf_iast (pc := 182) dX12_plan_182 ?_
    refine hf_ald_n (pc := 183) 0 rfl rfl dX12_plan_183 ?_
    refine hf_getf (pc := 184) fl_X12_50 dX12_plan_184 (fun v184 => ?_)
    refine hf_ild_n (pc := 187) 1 rfl rfl dX12_plan_187 ?_
    refine hf_ald_n (pc := 188) 0 rfl rfl dX12_plan_188 ?_
    refine hf_getf (pc := 189) fl_X12_50 dX12_plan_189 (fun v189 => ?_)
    refine hf_bipush (pc := 192) dX12_plan_192 (by decide) ?_
    refine hf_ild_n (pc := 194) 1 rfl rfl dX12_plan_194 ?_
    refine hf_iadd (pc := 195) dX12_plan_195 ?_
    refine hf_iald (pc := 196) dX12_plan_196 (fun v196 => ?_)
    refine hf_iast (pc := 197) dX12_plan_197 ?_
    refine hf_ald_n (pc := 198) 0 rfl rfl dX12_plan_198 ?_
    refine hf_getf (pc := 199) fl_X12_53 dX12_plan_199 (fun v199 => ?_)
    refine hf_ild_n (pc := 202) 1 rfl rfl dX12_plan_202 ?_
    refine hf_ald_n (pc := 203) 0 rfl rfl dX12_plan_203 ?_
    refine hf_getf (pc := 204) fl_X12_53 dX12_plan_204 (fun v204 => ?_)
    refine hf_bipush (pc := 207) dX12_plan_207 (by decide) ?_
    refine hf_ild_n (pc := 209) 1 rfl rfl dX12_plan_209 ?_
    refine hf_iadd (pc := 210) dX12_plan_210 ?_
    refine hf_iald (pc := 211) dX12_plan_211 (fun v211 => ?_)
    refine hf_iast (pc := 212) dX12_plan_212 ?_
    refine hf_ald_n (pc := 213) 0 rfl rfl dX12_plan_213 ?_
    refine hf_getf (pc := 214) fl_X12_56 dX12_plan_214 (fun v214 => ?_)
    refine hf_ild_n (pc := 217) 1 rfl rfl dX12_plan_217 ?_
    refine hf_ald_n (pc := 218) 0 rfl rfl dX12_plan_218 ?_
    refine hf_getf (pc := 219) fl_X12_56 dX12_plan_219 (fun v219 => ?_)
    refine hf_bipush (pc := 222) dX12_plan_222 (by decide) ?_
    refine hf_ild_n (pc := 224) 1 rfl rfl dX12_plan_224 ?_
    refine hf_iadd (pc := 225) dX12_plan_225 ?_
    refine hf_iald (pc := 226) dX12_plan_226 (fun v226 => ?_)
    refine hf_iast (pc := 227) dX12_plan_227 ?_
    refine hf_ald_n (pc := 228) 0 rfl rfl dX12_plan_228 ?_
    refine hf_getf (pc := 229) fl_X12_59 dX12_plan_229 (fun v229 => ?_)
    refine hf_ild_n (pc := 232) 1 rfl rfl dX12_plan_232 ?_
    refine hf_ald_n (pc := 233) 0 rfl rfl dX12_plan_233 ?_
    refine hf_getf (pc := 234) fl_X12_59 dX12_plan_234 (fun v234 => ?_)
    refine hf_bipush (pc := 237) dX12_plan_237 (by decide) ?_
    refine hf_ild_n (pc := 239) 1 rfl rfl dX12_plan_239 ?_
    refine hf_iadd (pc := 240) dX12_plan_240 ?_
    refine hf_iald (pc := 241) dX12_plan_241 (fun v241 => ?_)
    refine hf_iast (pc := 242) dX12_plan_242 ?_
    refine hf_iincB (pc := 243) (fun y => [(2, 0, y), (0, 2, x0)]) (q := 1) rfl (by decide) (fun _ => rfl) dX12_plan_243 (fun x2_243 => ?_)
    refine hf_goto (pc := 246) 162 dX12_plan_246 rfl ?_
    exact hf_sub [1, 0] rfl (hrec_162 x2_243)
set_option maxRecDepth 20000 in
theorem j_X12_plan_162 (x0 x2 : Int) : hf_J M_X12_plan 162 [(0, 2, x0), (2, 0, x2)] [] (f_X12_plan_162 x0 x2) :=
  hf_Jfx (L := fun s => [(0, 2, x0), (2, 0, s)]) (fun rec hrec s => jb_X12_plan_162 x0 rec hrec s) hf_N x2
set_option maxRecDepth 20000 in
theorem jb_X12_plan_103 (x0 : Int) (rec_103 : Int → hf_M Int) (hrec_103 : ∀ s : Int, hf_J M_X12_plan 103 [(0, 2, x0), (2, 0, s)] [] (rec_103 s)) (x2 : Int) : hf_J M_X12_plan 103 [(0, 2, x0), (2, 0, x2)] [] (B_X12_plan_103 x0 rec_103 x2) := by
  refine hf_ild_n (pc := 103) 1 rfl rfl dX12_plan_103 ?_
  refine hf_bipush (pc := 104) dX12_plan_104 (by decide) ?_
  refine hf_icmp_ge (pc := 106) 160 dX12_plan_106 rfl ?_ ?_
  · refine hf_iconst (pc := 160) dX12_plan_160 ?_
    refine hf_ist_n (pc := 161) (lv' := [(2, 0, 0), (0, 2, x0)]) rfl (by decide) rfl dX12_plan_161 ?_
    exact hf_sub [1, 0] rfl (j_X12_plan_162 x0 0)
  · refine hf_ald_n (pc := 109) 0 rfl rfl dX12_plan_109 ?_
    refine hf_getf (pc := 110) fl_X12_38 dX12_plan_110 (fun v110 => ?_)
    refine hf_ild_n (pc := 113) 1 rfl rfl dX12_plan_113 ?_
    refine hf_ald_n (pc := 114) 0 rfl rfl dX12_plan_114 ?_
    refine hf_getf (pc := 115) fl_X12_38 dX12_plan_115 (fun v115 => ?_)
    refine hf_bipush (pc := 118) dX12_plan_118 (by decide) ?_
    refine hf_ild_n (pc := 120) 1 rfl rfl dX12_plan_120 ?_
    refine hf_iadd (pc := 121) dX12_plan_121 ?_
    refine hf_iald (pc := 122) dX12_plan_122 (fun v122 => ?_)
    refine hf_iast (pc := 123) dX12_plan_123 ?_
    refine hf_ald_n (pc := 124) 0 rfl rfl dX12_plan_124 ?_
    refine hf_getf (pc := 125) fl_X12_41 dX12_plan_125 (fun v125 => ?_)
    refine hf_ild_n (pc := 128) 1 rfl rfl dX12_plan_128 ?_
    refine hf_ald_n (pc := 129) 0 rfl rfl dX12_plan_129 ?_
    refine hf_getf (pc := 130) fl_X12_41 dX12_plan_130 (fun v130 => ?_)
    refine hf_bipush (pc := 133) dX12_plan_133 (by decide) ?_
    refine hf_ild_n (pc := 135) 1 rfl rfl dX12_plan_135 ?_
    refine hf_iadd (pc := 136) dX12_plan_136 ?_
    refine hf_iald (pc := 137) dX12_plan_137 (fun v137 => ?_)
    refine hf_iast (pc := 138) dX12_plan_138 ?_
    refine hf_ald_n (pc := 139) 0 rfl rfl dX12_plan_139 ?_
    refine hf_getf (pc := 140) fl_X12_44 dX12_plan_140 (fun v140 => ?_)
    refine hf_ild_n (pc := 143) 1 rfl rfl dX12_plan_143 ?_
    refine hf_ald_n (pc := 144) 0 rfl rfl dX12_plan_144 ?_
    refine hf_getf (pc := 145) fl_X12_44 dX12_plan_145 (fun v145 => ?_)
    refine hf_bipush (pc := 148) dX12_plan_148 (by decide) ?_
    refine hf_ild_n (pc := 150) 1 rfl rfl dX12_plan_150 ?_
    refine hf_iadd (pc := 151) dX12_plan_151 ?_
    refine hf_iald (pc := 152) dX12_plan_152 (fun v152 => ?_)
    refine hf_iast (pc := 153) dX12_plan_153 ?_
    refine hf_iincB (pc := 154) (fun y => [(2, 0, y), (0, 2, x0)]) (q := 1) rfl (by decide) (fun _ => rfl) dX12_plan_154 (fun x2_154 => ?_)
    refine hf_goto (pc := 157) 103 dX12_plan_157 rfl ?_
    exact hf_sub [1, 0] rfl (hrec_103 x2_154)
set_option maxRecDepth 20000 in
theorem j_X12_plan_103 (x0 x2 : Int) : hf_J M_X12_plan 103 [(0, 2, x0), (2, 0, x2)] [] (f_X12_plan_103 x0 x2) :=
  hf_Jfx (L := fun s => [(0, 2, x0), (2, 0, s)]) (fun rec hrec s => jb_X12_plan_103 x0 rec hrec s) hf_N x2
set_option maxRecDepth 20000 in
theorem jb_X12_plan_64 (x0 : Int) (rec_64 : Unit → hf_M Int) (hrec_64 : ∀ s : Unit, hf_J M_X12_plan 64 [(0, 2, x0)] [] (rec_64 s)) : hf_J M_X12_plan 64 [(0, 2, x0)] [] (B_X12_plan_64 x0 rec_64) := by
  refine hf_ald_n (pc := 64) 0 rfl rfl dX12_plan_64 ?_
  refine hf_getf (pc := 65) fl_X12_170 dX12_plan_65 (fun v65 => ?_)
  refine hf_if_eq (pc := 68) 80 dX12_plan_68 rfl ?_ ?_
  · refine hf_ald_n (pc := 80) 0 rfl rfl dX12_plan_80 ?_
    refine hf_iconst (pc := 81) dX12_plan_81 ?_
    refine hf_putf (pc := 82) fl_X12_266 (Or.inr rfl) dX12_plan_82 ?_
    refine hf_ald_n (pc := 85) 0 rfl rfl dX12_plan_85 ?_
    refine hf_ald_n (pc := 86) 0 rfl rfl dX12_plan_86 ?_
    refine hf_getf (pc := 87) fl_X12_257 dX12_plan_87 (fun v87 => ?_)
    refine hf_putf (pc := 90) fl_X12_269 trivial dX12_plan_90 ?_
    refine hf_ald_n (pc := 93) 0 rfl rfl dX12_plan_93 ?_
    refine hf_ald_n (pc := 94) 0 rfl rfl dX12_plan_94 ?_
    refine hf_getf (pc := 95) fl_X12_192 dX12_plan_95 (fun v95 => ?_)
    refine hf_putf (pc := 98) fl_X12_272 trivial dX12_plan_98 ?_
    refine hf_iconst (pc := 101) dX12_plan_101 ?_
    refine hf_ist_n (pc := 102) (lv' := [(2, 0, 0), (0, 2, x0)]) rfl (by decide) rfl dX12_plan_102 ?_
    exact hf_sub [1, 0] rfl (j_X12_plan_103 x0 0)
  · refine hf_ald_n (pc := 71) 0 rfl rfl dX12_plan_71 ?_
    refine hf_cV (pc := 72) (N := M_X12_lineRead) (ts := []) (vs := []) (st := []) (fun r => [(0, r)]) (c_X12_lineRead x0) cal_X12_lineRead ml_X12_263 ⟨hf_le rfl, hf_le rfl⟩ (hf_le rfl) ⟨rfl, rfl⟩ rfl dX12_plan_72 (fun _ => rfl) (fun v72 => ?_)
    refine hf_if_ne (pc := 75) 64 dX12_plan_75 rfl ?_ ?_
    · exact hf_sub [0] rfl (hrec_64 ())
    · refine hf_iconst (pc := 78) dX12_plan_78 ?_
      exact hf_Jret (pc := 79) dX12_plan_79 (fun _ => rfl)
set_option maxRecDepth 20000 in
theorem j_X12_plan_64 (x0 : Int) : hf_J M_X12_plan 64 [(0, 2, x0)] [] (f_X12_plan_64 x0) :=
  hf_Jfx (L := fun s => [(0, 2, x0)]) (fun rec hrec s => jb_X12_plan_64 x0 rec hrec) hf_N ()
set_option maxRecDepth 20000 in
theorem c_X12_plan (x0 x1 : Int) : hf_Met M_X12_plan [2, 0] [x0, x1] (f_X12_plan x0 x1) := by
  refine hf_met rfl (by decide) (by decide) (by decide) ?_
  show hf_J M_X12_plan 0 [(0, 2, x0), (1, 0, x1)] [] _
  refine hf_ald_n (pc := 0) 0 rfl rfl dX12_plan_0 ?_
  refine hf_iconst (pc := 1) dX12_plan_1 ?_
  refine hf_putf (pc := 2) fl_X12_127 trivial dX12_plan_2 ?_
  refine hf_ild_n (pc := 5) 1 rfl rfl dX12_plan_5 ?_
  refine hf_if_lt (pc := 6) 17 dX12_plan_6 rfl ?_ ?_
  · refine hf_bipush (pc := 17) dX12_plan_17 (by decide) ?_
    exact hf_Jret (pc := 19) dX12_plan_19 (fun _ => rfl)
  · refine hf_ild_n (pc := 9) 1 rfl rfl dX12_plan_9 ?_
    refine hf_ald_n (pc := 10) 0 rfl rfl dX12_plan_10 ?_
    refine hf_getf (pc := 11) fl_X12_130 dX12_plan_11 (fun v11 => ?_)
    refine hf_icmp_le (pc := 14) 20 dX12_plan_14 rfl ?_ ?_
    · refine hf_ald_n (pc := 20) 0 rfl rfl dX12_plan_20 ?_
      refine hf_ild_n (pc := 21) 1 rfl rfl dX12_plan_21 ?_
      refine hf_putf (pc := 22) fl_X12_164 trivial dX12_plan_22 ?_
      refine hf_ald_n (pc := 25) 0 rfl rfl dX12_plan_25 ?_
      refine hf_iconst (pc := 26) dX12_plan_26 ?_
      refine hf_putf (pc := 27) fl_X12_130 trivial dX12_plan_27 ?_
      refine hf_ald_n (pc := 30) 0 rfl rfl dX12_plan_30 ?_
      refine hf_iconst (pc := 31) dX12_plan_31 ?_
      refine hf_putf (pc := 32) fl_X12_158 trivial dX12_plan_32 ?_
      refine hf_ald_n (pc := 35) 0 rfl rfl dX12_plan_35 ?_
      refine hf_iconst (pc := 36) dX12_plan_36 ?_
      refine hf_putf (pc := 37) fl_X12_35 trivial dX12_plan_37 ?_
      refine hf_ald_n (pc := 40) 0 rfl rfl dX12_plan_40 ?_
      refine hf_iconst (pc := 41) dX12_plan_41 ?_
      refine hf_putf (pc := 42) fl_X12_167 trivial dX12_plan_42 ?_
      refine hf_ald_n (pc := 45) 0 rfl rfl dX12_plan_45 ?_
      refine hf_iconst (pc := 46) dX12_plan_46 ?_
      refine hf_putf (pc := 47) fl_X12_257 trivial dX12_plan_47 ?_
      refine hf_ald_n (pc := 50) 0 rfl rfl dX12_plan_50 ?_
      refine hf_iconst (pc := 51) dX12_plan_51 ?_
      refine hf_putf (pc := 52) fl_X12_192 trivial dX12_plan_52 ?_
      refine hf_ald_n (pc := 55) 0 rfl rfl dX12_plan_55 ?_
      refine hf_iconst (pc := 56) dX12_plan_56 ?_
      refine hf_putf (pc := 57) fl_X12_212 trivial dX12_plan_57 ?_
      refine hf_ald_n (pc := 60) 0 rfl rfl dX12_plan_60 ?_
      refine hf_cV (pc := 61) (N := M_X12_take) (ts := []) (vs := []) (st := []) (fun r => []) (c_X12_take x0) cal_X12_take ml_X12_228 ⟨hf_le rfl, hf_le rfl⟩ (hf_le rfl) ⟨rfl, rfl⟩ rfl dX12_plan_61 (fun _ => rfl) (fun _ => ?_)
      exact hf_sub [0] rfl (j_X12_plan_64 x0)
    · refine hf_bipush (pc := 17) dX12_plan_17 (by decide) ?_
      exact hf_Jret (pc := 19) dX12_plan_19 (fun _ => rfl)
/-! HighFallModel.fault(I)I -/
def M_X12_fault : hf_D := (yX12_fault, cX12_fault, 2, some .int, 0, 0)
def f_X12_fault (x0 x1 : Int) : hf_M Int :=
  hf_bd (hf_pf 12 2 x0 0) (fun _ => hf_cz x1 (¬ x1 = 0) (hf_cb x1 1 (¬ x1 = 1) (hf_ret (-1)) (hf_bd (hf_gf 12 12 x0) (fun v22 => hf_ret v22))) (hf_bd (hf_gf 12 11 x0) (fun v10 => hf_ret v10)))
theorem cal_X12_fault : hf_cv M_X12_fault 12 1 := ⟨⟨ii_X12, kc_X12_fault, by decide, by decide, by decide +kernel⟩, ki_X12_fault, kv_X12_fault, _, rfl, rfl⟩
set_option maxRecDepth 20000 in
theorem c_X12_fault (x0 x1 : Int) : hf_Met M_X12_fault [2, 0] [x0, x1] (f_X12_fault x0 x1) := by
  refine hf_met rfl (by decide) (by decide) (by decide) ?_
  show hf_J M_X12_fault 0 [(0, 2, x0), (1, 0, x1)] [] _
  refine hf_ald_n (pc := 0) 0 rfl rfl dX12_fault_0 ?_
  refine hf_iconst (pc := 1) dX12_fault_1 ?_
  refine hf_putf (pc := 2) fl_X12_127 trivial dX12_fault_2 ?_
  refine hf_ild_n (pc := 5) 1 rfl rfl dX12_fault_5 ?_
  refine hf_if_ne (pc := 6) 16 dX12_fault_6 rfl ?_ ?_
  · refine hf_ild_n (pc := 16) 1 rfl rfl dX12_fault_16 ?_
    refine hf_iconst (pc := 17) dX12_fault_17 ?_
    refine hf_icmp_ne (pc := 18) 28 dX12_fault_18 rfl ?_ ?_
    · refine hf_iconst (pc := 28) dX12_fault_28 ?_
      exact hf_Jret (pc := 29) dX12_fault_29 (fun _ => rfl)
    · refine hf_ald_n (pc := 21) 0 rfl rfl dX12_fault_21 ?_
      refine hf_getf (pc := 22) fl_X12_35 dX12_fault_22 (fun v22 => ?_)
      refine hf_goto (pc := 25) 29 dX12_fault_25 rfl ?_
      exact hf_Jret (pc := 29) dX12_fault_29 (fun _ => rfl)
  · refine hf_ald_n (pc := 9) 0 rfl rfl dX12_fault_9 ?_
    refine hf_getf (pc := 10) fl_X12_158 dX12_fault_10 (fun v10 => ?_)
    refine hf_goto (pc := 13) 29 dX12_fault_13 rfl ?_
    exact hf_Jret (pc := 29) dX12_fault_29 (fun _ => rfl)
/-! HighFallModel.bounded(J)J -/
def M_X12_bounded : hf_D := (yX12_bounded, cX12_bounded, 3, some .long, 0, 0)
def f_X12_bounded_29 (x0 x1 s0 s1 : Int) : hf_M Int :=
  hf_ck (s1 = 0 ∨ s1 = 1) (hf_bd (hf_pf 12 41 s0 s1) (fun _ => hf_bd (hf_gf 12 41 x0) (fun v33 => hf_ck (hf_inI v33) (hf_bd (hf_ret (if v33 = 0 then x1 else 0)) (fun w44 => hf_ret w44)))))
def f_X12_bounded (x0 x1 : Int) : hf_M Int :=
  hf_bd (hf_gf 12 41 x0) (fun v2 => hf_cz v2 (¬ v2 = 0) (f_X12_bounded_29 x0 x1 x0 1) (hf_cl x1 1000000000000 (1000000000000 < x1) (f_X12_bounded_29 x0 x1 x0 1) (hf_cl x1 (-1000000000000) ((-1000000000000) ≤ x1) (f_X12_bounded_29 x0 x1 x0 0) (f_X12_bounded_29 x0 x1 x0 1))))
theorem cal_X12_bounded : hf_cv M_X12_bounded 12 1 := ⟨⟨ii_X12, kc_X12_bounded, by decide, by decide, by decide +kernel⟩, ki_X12_bounded, kv_X12_bounded, _, rfl, rfl⟩
set_option maxRecDepth 20000 in
theorem j_X12_bounded_29 (x0 x1 s0 s1 : Int) : hf_J M_X12_bounded 29 [(0, 2, x0), (1, 1, x1)] [(0, s1), (2, s0)] (f_X12_bounded_29 x0 x1 s0 s1) := by
  refine hf_Jck (fun hz => ?_)
  refine hf_putf (pc := 29) fl_X12_275 hz dX12_bounded_29 ?_
  refine hf_ald_n (pc := 32) 0 rfl rfl dX12_bounded_32 ?_
  refine hf_getf (pc := 33) fl_X12_275 dX12_bounded_33 (fun v33 => ?_)
  refine hf_Jdiz (pc := 36) (pcM := 44) (t := 1) (stM := []) (fun w44 => ?_) (fun a1 a2 => ?_)
  · exact hf_Jret (pc := 44) dX12_bounded_44 (fun _ => rfl)
  · refine hf_if_eq (pc := 36) 43 dX12_bounded_36 rfl ?_ ?_
    · refine hf_lld_n (pc := 43) 1 rfl rfl dX12_bounded_43 ?_
      exact a1
    · refine hf_lconst (pc := 39) (v := 0) dX12_bounded_39 (by decide) ?_
      refine hf_goto (pc := 40) 44 dX12_bounded_40 rfl ?_
      exact a2
set_option maxRecDepth 20000 in
theorem c_X12_bounded (x0 x1 : Int) : hf_Met M_X12_bounded [2, 1] [x0, x1] (f_X12_bounded x0 x1) := by
  refine hf_met rfl (by decide) (by decide) (by decide) ?_
  show hf_J M_X12_bounded 0 [(0, 2, x0), (1, 1, x1)] [] _
  refine hf_ald_n (pc := 0) 0 rfl rfl dX12_bounded_0 ?_
  refine hf_ald_n (pc := 1) 0 rfl rfl dX12_bounded_1 ?_
  refine hf_getf (pc := 2) fl_X12_275 dX12_bounded_2 (fun v2 => ?_)
  refine hf_if_ne (pc := 5) 24 dX12_bounded_5 rfl ?_ ?_
  · refine hf_iconst (pc := 24) dX12_bounded_24 ?_
    refine hf_goto (pc := 25) 29 dX12_bounded_25 rfl ?_
    exact hf_sub [0, 1] rfl (j_X12_bounded_29 x0 x1 x0 1)
  · refine hf_lld_n (pc := 8) 1 rfl rfl dX12_bounded_8 ?_
    refine hf_ldc2 (pc := 9) (n := 1000000000000) co_X12_278 (by decide) dX12_bounded_9 ?_
    refine hf_lcm_gt (pc := 12) 24 dX12_bounded_12 dX12_bounded_13 rfl ?_ ?_
    · refine hf_iconst (pc := 24) dX12_bounded_24 ?_
      refine hf_goto (pc := 25) 29 dX12_bounded_25 rfl ?_
      exact hf_sub [0, 1] rfl (j_X12_bounded_29 x0 x1 x0 1)
    · refine hf_lld_n (pc := 16) 1 rfl rfl dX12_bounded_16 ?_
      refine hf_ldc2 (pc := 17) (n := (-1000000000000)) co_X12_280 (by decide) dX12_bounded_17 ?_
      refine hf_lcm_ge (pc := 20) 28 dX12_bounded_20 dX12_bounded_21 rfl ?_ ?_
      · refine hf_iconst (pc := 28) dX12_bounded_28 ?_
        exact hf_sub [0, 1] rfl (j_X12_bounded_29 x0 x1 x0 0)
      · refine hf_iconst (pc := 24) dX12_bounded_24 ?_
        refine hf_goto (pc := 25) 29 dX12_bounded_25 rfl ?_
        exact hf_sub [0, 1] rfl (j_X12_bounded_29 x0 x1 x0 1)
/-! HighFallModel.times(JJ)J -/
def M_X12_times : hf_D := (yX12_times, cX12_times, 6, some .long, 0, 0)
def f_X12_times_69 (x0 x1 x3 s0 s1 : Int) : hf_M Int :=
  hf_ck (s1 = 0 ∨ s1 = 1) (hf_bd (hf_pf 12 41 s0 s1) (fun _ => hf_bd (hf_gf 12 41 x0) (fun v73 => hf_ck (hf_inI v73) (hf_bd (hf_ret (if v73 = 0 then (x1 * x3) else 0)) (fun w86 => hf_ret w86)))))
def f_X12_times_49 (x0 x1 x3 s0 : Int) : hf_M Int :=
  hf_bd (hf_gf 12 41 x0) (fun v53 => hf_cz v53 (¬ v53 = 0) (f_X12_times_69 x0 x1 x3 x0 1) (hf_cz s0 (s0 = 0) (f_X12_times_69 x0 x1 x3 x0 0) (f_X12_times_69 x0 x1 x3 x0 1)))
def f_X12_times (x0 x1 x3 : Int) : hf_M Int :=
  hf_cl x1 0 (x1 = 0) (f_X12_times_49 x0 x1 x3 0) (hf_cl x3 0 (x3 = 0) (f_X12_times_49 x0 x1 x3 0) (hf_ck (hf_inL x3 ∧ hf_inL 0) (hf_bd (hf_ret (if 0 ≤ x3 then x3 else (-x3))) (fun w24 => hf_ck (hf_inL x1 ∧ hf_inL 0) (hf_bd (hf_ret (if 0 ≤ x1 then x1 else (-x1))) (fun w39 => hf_bd (hf_dvl 1000000000000 w39) (fun v39 => hf_cl w24 v39 (w24 ≤ v39) (f_X12_times_49 x0 x1 x3 0) (f_X12_times_49 x0 x1 x3 1))))))))
theorem cal_X12_times : hf_cv M_X12_times 12 2 := ⟨⟨ii_X12, kc_X12_times, by decide, by decide, by decide +kernel⟩, ki_X12_times, kv_X12_times, _, rfl, rfl⟩
set_option maxRecDepth 20000 in
theorem j_X12_times_69 (x0 x1 x3 s0 s1 : Int) : hf_J M_X12_times 69 [(0, 2, x0), (1, 1, x1), (3, 1, x3)] [(0, s1), (2, s0)] (f_X12_times_69 x0 x1 x3 s0 s1) := by
  refine hf_Jck (fun hz => ?_)
  refine hf_putf (pc := 69) fl_X12_275 hz dX12_times_69 ?_
  refine hf_ald_n (pc := 72) 0 rfl rfl dX12_times_72 ?_
  refine hf_getf (pc := 73) fl_X12_275 dX12_times_73 (fun v73 => ?_)
  refine hf_Jdiz (pc := 76) (pcM := 86) (t := 1) (stM := []) (fun w86 => ?_) (fun a1 a2 => ?_)
  · exact hf_Jret (pc := 86) dX12_times_86 (fun _ => rfl)
  · refine hf_if_eq (pc := 76) 83 dX12_times_76 rfl ?_ ?_
    · refine hf_lld_n (pc := 83) 1 rfl rfl dX12_times_83 ?_
      refine hf_lld_n (pc := 84) 2 rfl rfl dX12_times_84 ?_
      refine hf_lmul (pc := 85) dX12_times_85 ?_
      exact a1
    · refine hf_lconst (pc := 79) (v := 0) dX12_times_79 (by decide) ?_
      refine hf_goto (pc := 80) 86 dX12_times_80 rfl ?_
      exact a2
set_option maxRecDepth 20000 in
theorem j_X12_times_49 (x0 x1 x3 s0 : Int) : hf_J M_X12_times 49 [(0, 2, x0), (1, 1, x1), (3, 1, x3)] [(0, s0)] (f_X12_times_49 x0 x1 x3 s0) := by
  refine hf_ist (pc := 49) (lv' := [(5, 0, s0), (0, 2, x0), (1, 1, x1), (3, 1, x3)]) (by decide) rfl dX12_times_49 ?_
  refine hf_ald_n (pc := 51) 1 rfl rfl dX12_times_51 ?_
  refine hf_ald_n (pc := 52) 1 rfl rfl dX12_times_52 ?_
  refine hf_getf (pc := 53) fl_X12_275 dX12_times_53 (fun v53 => ?_)
  refine hf_if_ne (pc := 56) 64 dX12_times_56 rfl ?_ ?_
  · refine hf_iconst (pc := 64) dX12_times_64 ?_
    refine hf_goto (pc := 65) 69 dX12_times_65 rfl ?_
    exact hf_sub [1, 2, 3] rfl (j_X12_times_69 x0 x1 x3 x0 1)
  · refine hf_ild (pc := 59) 0 rfl dX12_times_59 ?_
    refine hf_if_eq (pc := 61) 68 dX12_times_61 rfl ?_ ?_
    · refine hf_iconst (pc := 68) dX12_times_68 ?_
      exact hf_sub [1, 2, 3] rfl (j_X12_times_69 x0 x1 x3 x0 0)
    · refine hf_iconst (pc := 64) dX12_times_64 ?_
      refine hf_goto (pc := 65) 69 dX12_times_65 rfl ?_
      exact hf_sub [1, 2, 3] rfl (j_X12_times_69 x0 x1 x3 x0 1)
set_option maxRecDepth 20000 in
theorem c_X12_times (x0 x1 x3 : Int) : hf_Met M_X12_times [2, 1, 1] [x0, x1, x3] (f_X12_times x0 x1 x3) := by
  refine hf_met rfl (by decide) (by decide) (by decide) ?_
  show hf_J M_X12_times 0 [(0, 2, x0), (1, 1, x1), (3, 1, x3)] [] _
  refine hf_lld_n (pc := 0) 1 rfl rfl dX12_times_0 ?_
  refine hf_lconst (pc := 1) (v := 0) dX12_times_1 (by decide) ?_
  refine hf_lcm_eq (pc := 2) 48 dX12_times_2 dX12_times_3 rfl ?_ ?_
  · refine hf_iconst (pc := 48) dX12_times_48 ?_
    exact hf_sub [0, 1, 2] rfl (j_X12_times_49 x0 x1 x3 0)
  · refine hf_lld_n (pc := 6) 2 rfl rfl dX12_times_6 ?_
    refine hf_lconst (pc := 7) (v := 0) dX12_times_7 (by decide) ?_
    refine hf_lcm_eq (pc := 8) 48 dX12_times_8 dX12_times_9 rfl ?_ ?_
    · refine hf_iconst (pc := 48) dX12_times_48 ?_
      exact hf_sub [0, 1, 2] rfl (j_X12_times_49 x0 x1 x3 0)
    · refine hf_lld_n (pc := 12) 2 rfl rfl dX12_times_12 ?_
      refine hf_lconst (pc := 13) (v := 0) dX12_times_13 (by decide) ?_
      refine hf_Jdil (pc := 14) (pcM := 24) (t := 1) (stM := []) (fun w24 => ?_) (fun a1 a2 => ?_)
      · refine hf_ldc2 (pc := 24) (n := 1000000000000) co_X12_278 (by decide) dX12_times_24 ?_
        refine hf_lld_n (pc := 27) 1 rfl rfl dX12_times_27 ?_
        refine hf_lconst (pc := 28) (v := 0) dX12_times_28 (by decide) ?_
        refine hf_Jdil (pc := 29) (pcM := 39) (t := 1) (stM := [(1, 1000000000000), (1, w24)]) (fun w39 => ?_) (fun a1 a2 => ?_)
        · refine hf_ldiv (pc := 39) dX12_times_39 (fun v39 => ?_)
          refine hf_lcm_le (pc := 40) 48 dX12_times_40 dX12_times_41 rfl ?_ ?_
          · refine hf_iconst (pc := 48) dX12_times_48 ?_
            exact hf_sub [0, 1, 2] rfl (j_X12_times_49 x0 x1 x3 0)
          · refine hf_iconst (pc := 44) dX12_times_44 ?_
            refine hf_goto (pc := 45) 49 dX12_times_45 rfl ?_
            exact hf_sub [0, 1, 2] rfl (j_X12_times_49 x0 x1 x3 1)
        · refine hf_lcm_ge (pc := 29) 38 dX12_times_29 dX12_times_30 rfl ?_ ?_
          · refine hf_lld_n (pc := 38) 1 rfl rfl dX12_times_38 ?_
            exact a1
          · refine hf_lld_n (pc := 33) 1 rfl rfl dX12_times_33 ?_
            refine hf_lneg (pc := 34) dX12_times_34 ?_
            refine hf_goto (pc := 35) 39 dX12_times_35 rfl ?_
            exact a2
      · refine hf_lcm_ge (pc := 14) 23 dX12_times_14 dX12_times_15 rfl ?_ ?_
        · refine hf_lld_n (pc := 23) 2 rfl rfl dX12_times_23 ?_
          exact a1
        · refine hf_lld_n (pc := 18) 2 rfl rfl dX12_times_18 ?_
          refine hf_lneg (pc := 19) dX12_times_19 ?_
          refine hf_goto (pc := 20) 24 dX12_times_20 rfl ?_
          exact a2
/-! HighFallModel.compares(IJJ)Z -/
def M_X12_compares : hf_D := (yX12_compares, cX12_compares, 5, some .boolean, 0, 0)
def f_X12_compares (x0 x1 x3 : Int) : hf_M Int :=
  hf_ck (hf_inI x0) (hf_it (x0 = 5) (hf_ck (hf_inL x1 ∧ hf_inL x3) (hf_bd (hf_ret (if x3 ≤ x1 then 0 else 1)) (fun w47 => hf_ck (w47 = 0 ∨ w47 = 1) (hf_ret w47)))) (hf_it (x0 = 6) (hf_ck (hf_inL x1 ∧ hf_inL x3) (hf_bd (hf_ret (if x3 < x1 then 0 else 1)) (fun w59 => hf_ck (w59 = 0 ∨ w59 = 1) (hf_ret w59)))) (hf_it (x0 = 7) (hf_ck (hf_inL x1 ∧ hf_inL x3) (hf_bd (hf_ret (if ¬ x1 = x3 then 0 else 1)) (fun w71 => hf_ck (w71 = 0 ∨ w71 = 1) (hf_ret w71)))) (hf_it (x0 = 8) (hf_ck (hf_inL x1 ∧ hf_inL x3) (hf_bd (hf_ret (if x1 = x3 then 0 else 1)) (fun w83 => hf_ck (w83 = 0 ∨ w83 = 1) (hf_ret w83)))) (hf_it (x0 = 9) (hf_ck (hf_inL x1 ∧ hf_inL x3) (hf_bd (hf_ret (if x1 < x3 then 0 else 1)) (fun w95 => hf_ck (w95 = 0 ∨ w95 = 1) (hf_ret w95)))) (hf_ck (hf_inL x1 ∧ hf_inL x3) (hf_bd (hf_ret (if x1 ≤ x3 then 0 else 1)) (fun w107 => hf_ck (w107 = 0 ∨ w107 = 1) (hf_ret w107)))))))))
theorem cal_X12_compares : hf_csx M_X12_compares 3 := ⟨⟨ii_X12, kc_X12_compares, by decide, by decide, by decide +kernel⟩, ks_X12_compares⟩
set_option maxRecDepth 20000 in
theorem c_X12_compares (x0 x1 x3 : Int) : hf_Met M_X12_compares [0, 1, 1] [x0, x1, x3] (f_X12_compares x0 x1 x3) := by
  refine hf_met rfl (by decide) (by decide) (by decide) ?_
  show hf_J M_X12_compares 0 [(0, 0, x0), (1, 1, x1), (3, 1, x3)] [] _
  refine hf_ild_n (pc := 0) 0 rfl rfl dX12_compares_0 ?_
  refine hf_Jck (fun hr => ?_)
  refine hf_Jit (fun hc0 => ?_) (fun hc0 => ?_)
  · refine hf_tsw (pc := 1) 36 35 hr dX12_compares_1 (by omega) (by omega) (by rw [hc0]; rfl) rfl ?_
    refine hf_lld_n (pc := 36) 1 rfl rfl dX12_compares_36 ?_
    refine hf_lld_n (pc := 37) 2 rfl rfl dX12_compares_37 ?_
    refine hf_Jdil (pc := 38) (pcM := 47) (t := 0) (stM := []) (fun w47 => ?_) (fun a1 a2 => ?_)
    · refine hf_Jck (fun hz => ?_)
      exact hf_Jret (pc := 47) ⟨dX12_compares_47, hz⟩ (fun _ => rfl)
    · refine hf_lcm_ge (pc := 38) 46 dX12_compares_38 dX12_compares_39 rfl ?_ ?_
      · refine hf_iconst (pc := 46) dX12_compares_46 ?_
        exact a1
      · refine hf_iconst (pc := 42) dX12_compares_42 ?_
        refine hf_goto (pc := 43) 47 dX12_compares_43 rfl ?_
        exact a2
  · refine hf_Jit (fun hc1 => ?_) (fun hc1 => ?_)
    · refine hf_tsw (pc := 1) 48 47 hr dX12_compares_1 (by omega) (by omega) (by rw [hc1]; rfl) rfl ?_
      refine hf_lld_n (pc := 48) 1 rfl rfl dX12_compares_48 ?_
      refine hf_lld_n (pc := 49) 2 rfl rfl dX12_compares_49 ?_
      refine hf_Jdil (pc := 50) (pcM := 59) (t := 0) (stM := []) (fun w59 => ?_) (fun a1 a2 => ?_)
      · refine hf_Jck (fun hz => ?_)
        exact hf_Jret (pc := 59) ⟨dX12_compares_59, hz⟩ (fun _ => rfl)
      · refine hf_lcm_gt (pc := 50) 58 dX12_compares_50 dX12_compares_51 rfl ?_ ?_
        · refine hf_iconst (pc := 58) dX12_compares_58 ?_
          exact a1
        · refine hf_iconst (pc := 54) dX12_compares_54 ?_
          refine hf_goto (pc := 55) 59 dX12_compares_55 rfl ?_
          exact a2
    · refine hf_Jit (fun hc2 => ?_) (fun hc2 => ?_)
      · refine hf_tsw (pc := 1) 60 59 hr dX12_compares_1 (by omega) (by omega) (by rw [hc2]; rfl) rfl ?_
        refine hf_lld_n (pc := 60) 1 rfl rfl dX12_compares_60 ?_
        refine hf_lld_n (pc := 61) 2 rfl rfl dX12_compares_61 ?_
        refine hf_Jdil (pc := 62) (pcM := 71) (t := 0) (stM := []) (fun w71 => ?_) (fun a1 a2 => ?_)
        · refine hf_Jck (fun hz => ?_)
          exact hf_Jret (pc := 71) ⟨dX12_compares_71, hz⟩ (fun _ => rfl)
        · refine hf_lcm_ne (pc := 62) 70 dX12_compares_62 dX12_compares_63 rfl ?_ ?_
          · refine hf_iconst (pc := 70) dX12_compares_70 ?_
            exact a1
          · refine hf_iconst (pc := 66) dX12_compares_66 ?_
            refine hf_goto (pc := 67) 71 dX12_compares_67 rfl ?_
            exact a2
      · refine hf_Jit (fun hc3 => ?_) (fun hc3 => ?_)
        · refine hf_tsw (pc := 1) 72 71 hr dX12_compares_1 (by omega) (by omega) (by rw [hc3]; rfl) rfl ?_
          refine hf_lld_n (pc := 72) 1 rfl rfl dX12_compares_72 ?_
          refine hf_lld_n (pc := 73) 2 rfl rfl dX12_compares_73 ?_
          refine hf_Jdil (pc := 74) (pcM := 83) (t := 0) (stM := []) (fun w83 => ?_) (fun a1 a2 => ?_)
          · refine hf_Jck (fun hz => ?_)
            exact hf_Jret (pc := 83) ⟨dX12_compares_83, hz⟩ (fun _ => rfl)
          · refine hf_lcm_eq (pc := 74) 82 dX12_compares_74 dX12_compares_75 rfl ?_ ?_
            · refine hf_iconst (pc := 82) dX12_compares_82 ?_
              exact a1
            · refine hf_iconst (pc := 78) dX12_compares_78 ?_
              refine hf_goto (pc := 79) 83 dX12_compares_79 rfl ?_
              exact a2
        · refine hf_Jit (fun hc4 => ?_) (fun hc4 => ?_)
          · refine hf_tsw (pc := 1) 84 83 hr dX12_compares_1 (by omega) (by omega) (by rw [hc4]; rfl) rfl ?_
            refine hf_lld_n (pc := 84) 1 rfl rfl dX12_compares_84 ?_
            refine hf_lld_n (pc := 85) 2 rfl rfl dX12_compares_85 ?_
            refine hf_Jdil (pc := 86) (pcM := 95) (t := 0) (stM := []) (fun w95 => ?_) (fun a1 a2 => ?_)
            · refine hf_Jck (fun hz => ?_)
              exact hf_Jret (pc := 95) ⟨dX12_compares_95, hz⟩ (fun _ => rfl)
            · refine hf_lcm_lt (pc := 86) 94 dX12_compares_86 dX12_compares_87 rfl ?_ ?_
              · refine hf_iconst (pc := 94) dX12_compares_94 ?_
                exact a1
              · refine hf_iconst (pc := 90) dX12_compares_90 ?_
                refine hf_goto (pc := 91) 95 dX12_compares_91 rfl ?_
                exact a2
          · refine hf_tswd (pc := 1) 96 hr dX12_compares_1 (by omega) rfl ?_
            refine hf_lld_n (pc := 96) 1 rfl rfl dX12_compares_96 ?_
            refine hf_lld_n (pc := 97) 2 rfl rfl dX12_compares_97 ?_
            refine hf_Jdil (pc := 98) (pcM := 107) (t := 0) (stM := []) (fun w107 => ?_) (fun a1 a2 => ?_)
            · refine hf_Jck (fun hz => ?_)
              exact hf_Jret (pc := 107) ⟨dX12_compares_107, hz⟩ (fun _ => rfl)
            · refine hf_lcm_le (pc := 98) 106 dX12_compares_98 dX12_compares_99 rfl ?_ ?_
              · refine hf_iconst (pc := 106) dX12_compares_106 ?_
                exact a1
              · refine hf_iconst (pc := 102) dX12_compares_102 ?_
                refine hf_goto (pc := 103) 107 dX12_compares_103 rfl ?_
                exact a2
/-! HighFallModel.worthOf(I)J -/
def M_X12_worthOf : hf_D := (yX12_worthOf, cX12_worthOf, 6, some .long, 1, 25)
def f_X12_worthOf_240 (x0 x2 x4 s0 s1 : Int) : hf_M Int :=
  hf_ck (s1 = 0 ∨ s1 = 1) (hf_bd (hf_pf 12 41 s0 s1) (fun _ => hf_bd (hf_gf 12 41 x0) (fun v244 => hf_cz v244 (v244 = 0) (hf_bd (hf_dvl x2 x4) (fun v257 => hf_ret v257)) (hf_ret 0))))
def f_X12_worthOf (x0 x1 : Int) : hf_M Int :=
  hf_bd (hf_gf 12 23 x0) (fun v1 => hf_bd (hf_al 20 v1 x1) (fun v5 => hf_cz v5 (¬ v5 = 0) (hf_bd (hf_gf 12 23 x0) (fun v18 => hf_bd (hf_al 20 v18 x1) (fun v22 => hf_cb v22 1 (¬ v22 = 1) (hf_bd (hf_gf 12 40 x0) (fun v40 => hf_bd (hf_gf 12 24 x0) (fun v44 => hf_bd (hf_al 20 v44 x1) (fun v48 => hf_bd (hf_al 21 v40 v48) (fun v49 => hf_bd (hf_gf 12 23 x0) (fun v52 => hf_bd (hf_al 20 v52 x1) (fun v56 => hf_cb v56 2 (¬ v56 = 2) (hf_bd (hf_gf 12 40 x0) (fun v74 => hf_bd (hf_gf 12 25 x0) (fun v78 => hf_bd (hf_al 20 v78 x1) (fun v82 => hf_bd (hf_al 21 v74 v82) (fun v83 => hf_bd (hf_gf 12 23 x0) (fun v87 => hf_bd (hf_al 20 v87 x1) (fun v91 => hf_ck (hf_inI v91) (hf_it (v91 = 3) (hf_cl v49 0 (v49 = 0) (hf_ret 0) (hf_cl v83 0 (v83 = 0) (hf_ret 0) (hf_ret 1))) (hf_it (v91 = 4) (hf_cl v49 0 (¬ v49 = 0) (hf_ret 1) (hf_cl v83 0 (v83 = 0) (hf_ret 0) (hf_ret 1))) (hf_it (v91 = 11) (hf_bd (hf_ob 12 x0 (f_X12_bounded x0 (v49 + v83))) (fun v199 => hf_ret v199)) (hf_it (v91 = 12) (hf_bd (hf_ob 12 x0 (f_X12_bounded x0 (v49 - v83))) (fun v208 => hf_ret v208)) (hf_it (v91 = 13) (hf_bd (hf_ob 12 x0 (f_X12_times x0 v49 v83)) (fun v216 => hf_ret v216)) (hf_it (v91 = 14) (hf_bd (hf_gf 12 41 x0) (fun v222 => hf_cz v222 (¬ v222 = 0) (f_X12_worthOf_240 x0 v49 v83 x0 1) (hf_cl v83 0 (¬ v83 = 0) (f_X12_worthOf_240 x0 v49 v83 x0 0) (f_X12_worthOf_240 x0 v49 v83 x0 1)))) (hf_bd (hf_gf 12 23 x0) (fun v260 => hf_bd (hf_al 20 v260 x1) (fun v264 => hf_bd (f_X12_compares v264 v49 v83) (fun v268 => hf_ck (hf_inI v268) (hf_bd (hf_ret (if v268 = 0 then 0 else 1)) (fun w279 => hf_ret w279))))))))))))))))))) (hf_ck (hf_inL v49 ∧ hf_inL 0) (hf_bd (hf_ret (if ¬ v49 = 0 then 0 else 1)) (fun w72 => hf_ret w72)))))))))) (hf_bd (hf_gf 12 39 x0) (fun v28 => hf_bd (hf_gf 12 24 x0) (fun v32 => hf_bd (hf_al 20 v32 x1) (fun v36 => hf_bd (hf_al 21 v28 v36) (fun v37 => hf_ret v37)))))))) (hf_bd (hf_gf 12 24 x0) (fun v10 => hf_bd (hf_al 20 v10 x1) (fun v14 => hf_ck (hf_inI v14) (hf_ret v14))))))
theorem cal_X12_worthOf : hf_cv M_X12_worthOf 12 1 := ⟨⟨ii_X12, kc_X12_worthOf, by decide, by decide, by decide +kernel⟩, ki_X12_worthOf, kv_X12_worthOf, _, rfl, rfl⟩
set_option maxRecDepth 20000 in
theorem j_X12_worthOf_240 (x0 x2 x4 s0 s1 : Int) : hf_J M_X12_worthOf 240 [(0, 2, x0), (2, 1, x2), (4, 1, x4)] [(0, s1), (2, s0)] (f_X12_worthOf_240 x0 x2 x4 s0 s1) := by
  refine hf_Jck (fun hz => ?_)
  refine hf_putf (pc := 240) fl_X12_275 hz dX12_worthOf_240 ?_
  refine hf_ald_n (pc := 243) 0 rfl rfl dX12_worthOf_243 ?_
  refine hf_getf (pc := 244) fl_X12_275 dX12_worthOf_244 (fun v244 => ?_)
  refine hf_if_eq (pc := 247) 254 dX12_worthOf_247 rfl ?_ ?_
  · refine hf_lld_n (pc := 254) 1 rfl rfl dX12_worthOf_254 ?_
    refine hf_lld (pc := 255) 2 rfl dX12_worthOf_255 ?_
    refine hf_ldiv (pc := 257) dX12_worthOf_257 (fun v257 => ?_)
    exact hf_Jret (pc := 258) dX12_worthOf_258 (fun _ => rfl)
  · refine hf_lconst (pc := 250) (v := 0) dX12_worthOf_250 (by decide) ?_
    refine hf_goto (pc := 251) 258 dX12_worthOf_251 rfl ?_
    exact hf_Jret (pc := 258) dX12_worthOf_258 (fun _ => rfl)
set_option maxRecDepth 20000 in
theorem c_X12_worthOf (x0 x1 : Int) : hf_Met M_X12_worthOf [2, 0] [x0, x1] (f_X12_worthOf x0 x1) := by
  refine hf_met rfl (by decide) (by decide) (by decide) ?_
  show hf_J M_X12_worthOf 0 [(0, 2, x0), (1, 0, x1)] [] _
  refine hf_ald_n (pc := 0) 0 rfl rfl dX12_worthOf_0 ?_
  refine hf_getf (pc := 1) fl_X12_38 dX12_worthOf_1 (fun v1 => ?_)
  refine hf_ild_n (pc := 4) 1 rfl rfl dX12_worthOf_4 ?_
  refine hf_iald (pc := 5) dX12_worthOf_5 (fun v5 => ?_)
  refine hf_if_ne (pc := 6) 17 dX12_worthOf_6 rfl ?_ ?_
  · refine hf_ald_n (pc := 17) 0 rfl rfl dX12_worthOf_17 ?_
    refine hf_getf (pc := 18) fl_X12_38 dX12_worthOf_18 (fun v18 => ?_)
    refine hf_ild_n (pc := 21) 1 rfl rfl dX12_worthOf_21 ?_
    refine hf_iald (pc := 22) dX12_worthOf_22 (fun v22 => ?_)
    refine hf_iconst (pc := 23) dX12_worthOf_23 ?_
    refine hf_icmp_ne (pc := 24) 39 dX12_worthOf_24 rfl ?_ ?_
    · refine hf_ald_n (pc := 39) 0 rfl rfl dX12_worthOf_39 ?_
      refine hf_getf (pc := 40) fl_X12_72 dX12_worthOf_40 (fun v40 => ?_)
      refine hf_ald_n (pc := 43) 0 rfl rfl dX12_worthOf_43 ?_
      refine hf_getf (pc := 44) fl_X12_41 dX12_worthOf_44 (fun v44 => ?_)
      refine hf_ild_n (pc := 47) 1 rfl rfl dX12_worthOf_47 ?_
      refine hf_iald (pc := 48) dX12_worthOf_48 (fun v48 => ?_)
      refine hf_lald (pc := 49) dX12_worthOf_49 (fun v49 => ?_)
      refine hf_lst_n (pc := 50) (lv' := [(2, 1, v49), (0, 2, x0), (1, 0, x1)]) rfl (by decide) rfl dX12_worthOf_50 ?_
      refine hf_ald_n (pc := 51) 1 rfl rfl dX12_worthOf_51 ?_
      refine hf_getf (pc := 52) fl_X12_38 dX12_worthOf_52 (fun v52 => ?_)
      refine hf_ild_n (pc := 55) 2 rfl rfl dX12_worthOf_55 ?_
      refine hf_iald (pc := 56) dX12_worthOf_56 (fun v56 => ?_)
      refine hf_iconst (pc := 57) dX12_worthOf_57 ?_
      refine hf_icmp_ne (pc := 58) 73 dX12_worthOf_58 rfl ?_ ?_
      · refine hf_ald_n (pc := 73) 1 rfl rfl dX12_worthOf_73 ?_
        refine hf_getf (pc := 74) fl_X12_72 dX12_worthOf_74 (fun v74 => ?_)
        refine hf_ald_n (pc := 77) 1 rfl rfl dX12_worthOf_77 ?_
        refine hf_getf (pc := 78) fl_X12_44 dX12_worthOf_78 (fun v78 => ?_)
        refine hf_ild_n (pc := 81) 2 rfl rfl dX12_worthOf_81 ?_
        refine hf_iald (pc := 82) dX12_worthOf_82 (fun v82 => ?_)
        refine hf_lald (pc := 83) dX12_worthOf_83 (fun v83 => ?_)
        refine hf_lst (pc := 84) (lv' := [(4, 1, v83), (2, 1, v49), (0, 2, x0), (1, 0, x1)]) (by decide) rfl dX12_worthOf_84 ?_
        refine hf_ald_n (pc := 86) 2 rfl rfl dX12_worthOf_86 ?_
        refine hf_getf (pc := 87) fl_X12_38 dX12_worthOf_87 (fun v87 => ?_)
        refine hf_ild_n (pc := 90) 3 rfl rfl dX12_worthOf_90 ?_
        refine hf_iald (pc := 91) dX12_worthOf_91 (fun v91 => ?_)
        refine hf_Jck (fun hr => ?_)
        refine hf_Jit (fun hc0 => ?_) (fun hc0 => ?_)
        · refine hf_tsw (pc := 92) 156 64 hr dX12_worthOf_92 (by omega) (by omega) (by rw [hc0]; rfl) rfl ?_
          refine hf_lld_n (pc := 156) 1 rfl rfl dX12_worthOf_156 ?_
          refine hf_lconst (pc := 157) (v := 0) dX12_worthOf_157 (by decide) ?_
          refine hf_lcm_eq (pc := 158) 173 dX12_worthOf_158 dX12_worthOf_159 rfl ?_ ?_
          · refine hf_lconst (pc := 173) (v := 0) dX12_worthOf_173 (by decide) ?_
            exact hf_Jret (pc := 174) dX12_worthOf_174 (fun _ => rfl)
          · refine hf_lld (pc := 162) 0 rfl dX12_worthOf_162 ?_
            refine hf_lconst (pc := 164) (v := 0) dX12_worthOf_164 (by decide) ?_
            refine hf_lcm_eq (pc := 165) 173 dX12_worthOf_165 dX12_worthOf_166 rfl ?_ ?_
            · refine hf_lconst (pc := 173) (v := 0) dX12_worthOf_173 (by decide) ?_
              exact hf_Jret (pc := 174) dX12_worthOf_174 (fun _ => rfl)
            · refine hf_lconst (pc := 169) (v := 1) dX12_worthOf_169 (by decide) ?_
              refine hf_goto (pc := 170) 174 dX12_worthOf_170 rfl ?_
              exact hf_Jret (pc := 174) dX12_worthOf_174 (fun _ => rfl)
        · refine hf_Jit (fun hc1 => ?_) (fun hc1 => ?_)
          · refine hf_tsw (pc := 92) 175 83 hr dX12_worthOf_92 (by omega) (by omega) (by rw [hc1]; rfl) rfl ?_
            refine hf_lld_n (pc := 175) 1 rfl rfl dX12_worthOf_175 ?_
            refine hf_lconst (pc := 176) (v := 0) dX12_worthOf_176 (by decide) ?_
            refine hf_lcm_ne (pc := 177) 188 dX12_worthOf_177 dX12_worthOf_178 rfl ?_ ?_
            · refine hf_lconst (pc := 188) (v := 1) dX12_worthOf_188 (by decide) ?_
              refine hf_goto (pc := 189) 193 dX12_worthOf_189 rfl ?_
              exact hf_Jret (pc := 193) dX12_worthOf_193 (fun _ => rfl)
            · refine hf_lld (pc := 181) 0 rfl dX12_worthOf_181 ?_
              refine hf_lconst (pc := 183) (v := 0) dX12_worthOf_183 (by decide) ?_
              refine hf_lcm_eq (pc := 184) 192 dX12_worthOf_184 dX12_worthOf_185 rfl ?_ ?_
              · refine hf_lconst (pc := 192) (v := 0) dX12_worthOf_192 (by decide) ?_
                exact hf_Jret (pc := 193) dX12_worthOf_193 (fun _ => rfl)
              · refine hf_lconst (pc := 188) (v := 1) dX12_worthOf_188 (by decide) ?_
                refine hf_goto (pc := 189) 193 dX12_worthOf_189 rfl ?_
                exact hf_Jret (pc := 193) dX12_worthOf_193 (fun _ => rfl)
          · refine hf_Jit (fun hc2 => ?_) (fun hc2 => ?_)
            · refine hf_tsw (pc := 92) 194 102 hr dX12_worthOf_92 (by omega) (by omega) (by rw [hc2]; rfl) rfl ?_
              refine hf_ald_n (pc := 194) 2 rfl rfl dX12_worthOf_194 ?_
              refine hf_lld_n (pc := 195) 1 rfl rfl dX12_worthOf_195 ?_
              refine hf_lld (pc := 196) 0 rfl dX12_worthOf_196 ?_
              refine hf_ladd (pc := 198) dX12_worthOf_198 ?_
              refine hf_cV (pc := 199) (N := M_X12_bounded) (ts := [1]) (vs := [(v49 + v83)]) (st := []) (fun r => [(1, r)]) (c_X12_bounded x0 (v49 + v83)) cal_X12_bounded ml_X12_282 ⟨hf_le rfl, hf_le rfl⟩ (hf_le rfl) ⟨rfl, rfl⟩ rfl dX12_worthOf_199 (fun _ => rfl) (fun v199 => ?_)
              exact hf_Jret (pc := 202) dX12_worthOf_202 (fun _ => rfl)
            · refine hf_Jit (fun hc3 => ?_) (fun hc3 => ?_)
              · refine hf_tsw (pc := 92) 203 111 hr dX12_worthOf_92 (by omega) (by omega) (by rw [hc3]; rfl) rfl ?_
                refine hf_ald_n (pc := 203) 2 rfl rfl dX12_worthOf_203 ?_
                refine hf_lld_n (pc := 204) 1 rfl rfl dX12_worthOf_204 ?_
                refine hf_lld (pc := 205) 0 rfl dX12_worthOf_205 ?_
                refine hf_lsub (pc := 207) dX12_worthOf_207 ?_
                refine hf_cV (pc := 208) (N := M_X12_bounded) (ts := [1]) (vs := [(v49 - v83)]) (st := []) (fun r => [(1, r)]) (c_X12_bounded x0 (v49 - v83)) cal_X12_bounded ml_X12_282 ⟨hf_le rfl, hf_le rfl⟩ (hf_le rfl) ⟨rfl, rfl⟩ rfl dX12_worthOf_208 (fun _ => rfl) (fun v208 => ?_)
                exact hf_Jret (pc := 211) dX12_worthOf_211 (fun _ => rfl)
              · refine hf_Jit (fun hc4 => ?_) (fun hc4 => ?_)
                · refine hf_tsw (pc := 92) 212 120 hr dX12_worthOf_92 (by omega) (by omega) (by rw [hc4]; rfl) rfl ?_
                  refine hf_ald_n (pc := 212) 2 rfl rfl dX12_worthOf_212 ?_
                  refine hf_lld_n (pc := 213) 1 rfl rfl dX12_worthOf_213 ?_
                  refine hf_lld (pc := 214) 0 rfl dX12_worthOf_214 ?_
                  refine hf_cV (pc := 216) (N := M_X12_times) (ts := [1, 1]) (vs := [v49, v83]) (st := []) (fun r => [(1, r)]) (c_X12_times x0 v49 v83) cal_X12_times ml_X12_286 ⟨hf_le rfl, hf_le rfl⟩ (hf_le rfl) ⟨rfl, rfl⟩ rfl dX12_worthOf_216 (fun _ => rfl) (fun v216 => ?_)
                  exact hf_Jret (pc := 219) dX12_worthOf_219 (fun _ => rfl)
                · refine hf_Jit (fun hc5 => ?_) (fun hc5 => ?_)
                  · refine hf_tsw (pc := 92) 220 128 hr dX12_worthOf_92 (by omega) (by omega) (by rw [hc5]; rfl) rfl ?_
                    refine hf_ald_n (pc := 220) 2 rfl rfl dX12_worthOf_220 ?_
                    refine hf_ald_n (pc := 221) 2 rfl rfl dX12_worthOf_221 ?_
                    refine hf_getf (pc := 222) fl_X12_275 dX12_worthOf_222 (fun v222 => ?_)
                    refine hf_if_ne (pc := 225) 235 dX12_worthOf_225 rfl ?_ ?_
                    · refine hf_iconst (pc := 235) dX12_worthOf_235 ?_
                      refine hf_goto (pc := 236) 240 dX12_worthOf_236 rfl ?_
                      exact hf_sub [2, 1, 0] rfl (j_X12_worthOf_240 x0 v49 v83 x0 1)
                    · refine hf_lld (pc := 228) 0 rfl dX12_worthOf_228 ?_
                      refine hf_lconst (pc := 230) (v := 0) dX12_worthOf_230 (by decide) ?_
                      refine hf_lcm_ne (pc := 231) 239 dX12_worthOf_231 dX12_worthOf_232 rfl ?_ ?_
                      · refine hf_iconst (pc := 239) dX12_worthOf_239 ?_
                        exact hf_sub [2, 1, 0] rfl (j_X12_worthOf_240 x0 v49 v83 x0 0)
                      · refine hf_iconst (pc := 235) dX12_worthOf_235 ?_
                        refine hf_goto (pc := 236) 240 dX12_worthOf_236 rfl ?_
                        exact hf_sub [2, 1, 0] rfl (j_X12_worthOf_240 x0 v49 v83 x0 1)
                  · have hg : v91 < 3 ∨ 14 < v91 ∨ v91 = 5 ∨ v91 = 6 ∨ v91 = 7 ∨ v91 = 8 ∨ v91 = 9 ∨ v91 = 10 := by omega
                    refine hf_tswg (pc := 92) 259 hr dX12_worthOf_92 (by rcases hg with hg | hg | hg | hg | hg | hg | hg | hg <;> first | exact Or.inl hg | exact Or.inr (Or.inl hg) | (rw [hg]; exact Or.inr (Or.inr rfl))) rfl ?_
                    refine hf_ald_n (pc := 259) 2 rfl rfl dX12_worthOf_259 ?_
                    refine hf_getf (pc := 260) fl_X12_38 dX12_worthOf_260 (fun v260 => ?_)
                    refine hf_ild_n (pc := 263) 3 rfl rfl dX12_worthOf_263 ?_
                    refine hf_iald (pc := 264) dX12_worthOf_264 (fun v264 => ?_)
                    refine hf_lld_n (pc := 265) 1 rfl rfl dX12_worthOf_265 ?_
                    refine hf_lld (pc := 266) 0 rfl dX12_worthOf_266 ?_
                    refine hf_cS (pc := 268) (N := M_X12_compares) (ts := [0, 1, 1]) (vs := [v264, v49, v83]) (st := []) (fun r => [(0, r)]) (c_X12_compares v264 v49 v83) cal_X12_compares ml_X12_290 ⟨hf_le rfl, hf_le rfl⟩ (hf_le rfl) ⟨rfl, rfl⟩ rfl dX12_worthOf_268 (fun _ => rfl) (fun v268 => ?_)
                    refine hf_Jdiz (pc := 271) (pcM := 279) (t := 1) (stM := []) (fun w279 => ?_) (fun a1 a2 => ?_)
                    · exact hf_Jret (pc := 279) dX12_worthOf_279 (fun _ => rfl)
                    · refine hf_if_eq (pc := 271) 278 dX12_worthOf_271 rfl ?_ ?_
                      · refine hf_lconst (pc := 278) (v := 0) dX12_worthOf_278 (by decide) ?_
                        exact a1
                      · refine hf_lconst (pc := 274) (v := 1) dX12_worthOf_274 (by decide) ?_
                        refine hf_goto (pc := 275) 279 dX12_worthOf_275 rfl ?_
                        exact a2
      · refine hf_lld_n (pc := 61) 0 rfl rfl dX12_worthOf_61 ?_
        refine hf_lconst (pc := 62) (v := 0) dX12_worthOf_62 (by decide) ?_
        refine hf_Jdil (pc := 63) (pcM := 72) (t := 1) (stM := []) (fun w72 => ?_) (fun a1 a2 => ?_)
        · exact hf_Jret (pc := 72) dX12_worthOf_72 (fun _ => rfl)
        · refine hf_lcm_ne (pc := 63) 71 dX12_worthOf_63 dX12_worthOf_64 rfl ?_ ?_
          · refine hf_lconst (pc := 71) (v := 0) dX12_worthOf_71 (by decide) ?_
            exact a1
          · refine hf_lconst (pc := 67) (v := 1) dX12_worthOf_67 (by decide) ?_
            refine hf_goto (pc := 68) 72 dX12_worthOf_68 rfl ?_
            exact a2
    · refine hf_ald_n (pc := 27) 0 rfl rfl dX12_worthOf_27 ?_
      refine hf_getf (pc := 28) fl_X12_68 dX12_worthOf_28 (fun v28 => ?_)
      refine hf_ald_n (pc := 31) 0 rfl rfl dX12_worthOf_31 ?_
      refine hf_getf (pc := 32) fl_X12_41 dX12_worthOf_32 (fun v32 => ?_)
      refine hf_ild_n (pc := 35) 1 rfl rfl dX12_worthOf_35 ?_
      refine hf_iald (pc := 36) dX12_worthOf_36 (fun v36 => ?_)
      refine hf_lald (pc := 37) dX12_worthOf_37 (fun v37 => ?_)
      exact hf_Jret (pc := 38) dX12_worthOf_38 (fun _ => rfl)
  · refine hf_ald_n (pc := 9) 0 rfl rfl dX12_worthOf_9 ?_
    refine hf_getf (pc := 10) fl_X12_41 dX12_worthOf_10 (fun v10 => ?_)
    refine hf_ild_n (pc := 13) 1 rfl rfl dX12_worthOf_13 ?_
    refine hf_iald (pc := 14) dX12_worthOf_14 (fun v14 => ?_)
    refine hf_i2l (pc := 15) dX12_worthOf_15 ?_
    exact hf_Jret (pc := 16) dX12_worthOf_16 (fun _ => rfl)
/-! HighFallModel.sumOf(II)J -/
def M_X12_sumOf : hf_D := (yX12_sumOf, cX12_sumOf, 4, some .long, 2, 50)
def B_X12_sumOf_7 (x0 x2 : Int) (rec_7 : Int → hf_M Int) (x3 : Int) : hf_M Int :=
  hf_cb x3 x2 (x2 ≤ x3) (hf_bd (hf_gf 12 40 x0) (fun v30 => hf_bd (hf_al 21 v30 (x2 - 1)) (fun v36 => hf_ret v36))) (hf_bd (hf_gf 12 40 x0) (fun v13 => hf_bd (hf_ob 12 x0 (f_X12_worthOf x0 x3)) (fun v19 => hf_bd (hf_as 21 v13 x3 v19) (fun _ => hf_bd (hf_ret (x3 + 1)) (fun x3_23 => rec_7 x3_23)))))
def f_X12_sumOf_7 (x0 x2 x3 : Int) : hf_M Int := hf_fx (fun rec s => B_X12_sumOf_7 x0 x2 rec s) hf_N x3
def f_X12_sumOf (x0 x1 x2 : Int) : hf_M Int :=
  hf_bd (hf_pf 12 41 x0 0) (fun _ => f_X12_sumOf_7 x0 x2 x1)
theorem cal_X12_sumOf : hf_cv M_X12_sumOf 12 2 := ⟨⟨ii_X12, kc_X12_sumOf, by decide, by decide, by decide +kernel⟩, ki_X12_sumOf, kv_X12_sumOf, _, rfl, rfl⟩
set_option maxRecDepth 20000 in
theorem jb_X12_sumOf_7 (x0 x2 : Int) (rec_7 : Int → hf_M Int) (hrec_7 : ∀ s : Int, hf_J M_X12_sumOf 7 [(0, 2, x0), (2, 0, x2), (3, 0, s)] [] (rec_7 s)) (x3 : Int) : hf_J M_X12_sumOf 7 [(0, 2, x0), (2, 0, x2), (3, 0, x3)] [] (B_X12_sumOf_7 x0 x2 rec_7 x3) := by
  refine hf_ild_n (pc := 7) 2 rfl rfl dX12_sumOf_7 ?_
  refine hf_ild_n (pc := 8) 1 rfl rfl dX12_sumOf_8 ?_
  refine hf_icmp_ge (pc := 9) 29 dX12_sumOf_9 rfl ?_ ?_
  · refine hf_ald_n (pc := 29) 0 rfl rfl dX12_sumOf_29 ?_
    refine hf_getf (pc := 30) fl_X12_72 dX12_sumOf_30 (fun v30 => ?_)
    refine hf_ild_n (pc := 33) 1 rfl rfl dX12_sumOf_33 ?_
    refine hf_iconst (pc := 34) dX12_sumOf_34 ?_
    refine hf_isub (pc := 35) dX12_sumOf_35 ?_
    refine hf_lald (pc := 36) dX12_sumOf_36 (fun v36 => ?_)
    exact hf_Jret (pc := 37) dX12_sumOf_37 (fun _ => rfl)
  · refine hf_ald_n (pc := 12) 0 rfl rfl dX12_sumOf_12 ?_
    refine hf_getf (pc := 13) fl_X12_72 dX12_sumOf_13 (fun v13 => ?_)
    refine hf_ild_n (pc := 16) 2 rfl rfl dX12_sumOf_16 ?_
    refine hf_ald_n (pc := 17) 0 rfl rfl dX12_sumOf_17 ?_
    refine hf_ild_n (pc := 18) 2 rfl rfl dX12_sumOf_18 ?_
    refine hf_cV (pc := 19) (N := M_X12_worthOf) (ts := [0]) (vs := [x3]) (st := [(0, x3), (2, v13)]) (fun r => [(1, r), (0, x3), (2, v13)]) (c_X12_worthOf x0 x3) cal_X12_worthOf ml_X12_294 ⟨hf_le rfl, hf_le rfl⟩ (hf_le rfl) ⟨rfl, rfl⟩ rfl dX12_sumOf_19 (fun _ => rfl) (fun v19 => ?_)
    refine hf_last (pc := 22) dX12_sumOf_22 ?_
    refine hf_iincB (pc := 23) (fun y => [(3, 0, y), (0, 2, x0), (2, 0, x2)]) (q := 2) rfl (by decide) (fun _ => rfl) dX12_sumOf_23 (fun x3_23 => ?_)
    refine hf_goto (pc := 26) 7 dX12_sumOf_26 rfl ?_
    exact hf_sub [1, 2, 0] rfl (hrec_7 x3_23)
set_option maxRecDepth 20000 in
theorem j_X12_sumOf_7 (x0 x2 x3 : Int) : hf_J M_X12_sumOf 7 [(0, 2, x0), (2, 0, x2), (3, 0, x3)] [] (f_X12_sumOf_7 x0 x2 x3) :=
  hf_Jfx (L := fun s => [(0, 2, x0), (2, 0, x2), (3, 0, s)]) (fun rec hrec s => jb_X12_sumOf_7 x0 x2 rec hrec s) hf_N x3
set_option maxRecDepth 20000 in
theorem c_X12_sumOf (x0 x1 x2 : Int) : hf_Met M_X12_sumOf [2, 0, 0] [x0, x1, x2] (f_X12_sumOf x0 x1 x2) := by
  refine hf_met rfl (by decide) (by decide) (by decide) ?_
  show hf_J M_X12_sumOf 0 [(0, 2, x0), (1, 0, x1), (2, 0, x2)] [] _
  refine hf_ald_n (pc := 0) 0 rfl rfl dX12_sumOf_0 ?_
  refine hf_iconst (pc := 1) dX12_sumOf_1 ?_
  refine hf_putf (pc := 2) fl_X12_275 (Or.inl rfl) dX12_sumOf_2 ?_
  refine hf_ild_n (pc := 5) 1 rfl rfl dX12_sumOf_5 ?_
  refine hf_ist_n (pc := 6) (lv' := [(3, 0, x1), (0, 2, x0), (1, 0, x1), (2, 0, x2)]) rfl (by decide) rfl dX12_sumOf_6 ?_
  exact hf_sub [1, 3, 0] rfl (j_X12_sumOf_7 x0 x2 x1)
/-! HighFallModel.lineNow()I -/
def M_X12_lineNow : hf_D := (yX12_lineNow, cX12_lineNow, 4, some .int, 3, 73)
def f_X12_lineNow_59 (rec_2 : Int → hf_M Int) (x0 x1 : Int) : hf_M Int :=
  hf_bd (hf_ret (x1 + 1)) (fun x1_59 => rec_2 x1_59)
def B_X12_lineNow_2 (x0 : Int) (rec_2 : Int → hf_M Int) (x1 : Int) : hf_M Int :=
  hf_bd (hf_gf 12 19 x0) (fun v4 => hf_cb x1 v4 (v4 ≤ x1) (hf_ret (-1)) (hf_bd (hf_gf 12 27 x0) (fun v11 => hf_bd (hf_al 20 v11 x1) (fun v15 => hf_bd (hf_gf 12 26 x0) (fun v17 => hf_bd (hf_al 20 v17 x1) (fun v21 => hf_cb v15 v21 (¬ v15 = v21) (hf_bd (hf_gf 12 26 x0) (fun v29 => hf_bd (hf_al 20 v29 x1) (fun v33 => hf_bd (hf_gf 12 27 x0) (fun v35 => hf_bd (hf_al 20 v35 x1) (fun v39 => hf_bd (hf_ob 12 x0 (f_X12_sumOf x0 v33 v39)) (fun v40 => hf_bd (hf_gf 12 41 x0) (fun v45 => hf_cz v45 (¬ v45 = 0) (f_X12_lineNow_59 rec_2 x0 x1) (hf_cl v40 0 (v40 = 0) (f_X12_lineNow_59 rec_2 x0 x1) (hf_ret x1))))))))) (hf_ret x1)))))))
def f_X12_lineNow_2 (x0 x1 : Int) : hf_M Int := hf_fx (fun rec s => B_X12_lineNow_2 x0 rec s) hf_N x1
def f_X12_lineNow (x0 : Int) : hf_M Int :=
  f_X12_lineNow_2 x0 0
theorem cal_X12_lineNow : hf_cv M_X12_lineNow 12 0 := ⟨⟨ii_X12, kc_X12_lineNow, by decide, by decide, by decide +kernel⟩, ki_X12_lineNow, kv_X12_lineNow, _, rfl, rfl⟩
set_option maxRecDepth 20000 in
theorem j_X12_lineNow_59 (x0 x1 : Int) (rec_2 : Int → hf_M Int) (hrec_2 : ∀ s : Int, hf_J M_X12_lineNow 2 [(0, 2, x0), (1, 0, s)] [] (rec_2 s)) : hf_J M_X12_lineNow 59 [(0, 2, x0), (1, 0, x1)] [] (f_X12_lineNow_59 rec_2 x0 x1) := by
  refine hf_iincB (pc := 59) (fun y => [(1, 0, y), (0, 2, x0)]) (q := 1) rfl (by decide) (fun _ => rfl) dX12_lineNow_59 (fun x1_59 => ?_)
  refine hf_goto (pc := 62) 2 dX12_lineNow_62 rfl ?_
  exact hf_sub [1, 0] rfl (hrec_2 x1_59)
set_option maxRecDepth 20000 in
theorem jb_X12_lineNow_2 (x0 : Int) (rec_2 : Int → hf_M Int) (hrec_2 : ∀ s : Int, hf_J M_X12_lineNow 2 [(0, 2, x0), (1, 0, s)] [] (rec_2 s)) (x1 : Int) : hf_J M_X12_lineNow 2 [(0, 2, x0), (1, 0, x1)] [] (B_X12_lineNow_2 x0 rec_2 x1) := by
  refine hf_ild_n (pc := 2) 1 rfl rfl dX12_lineNow_2 ?_
  refine hf_ald_n (pc := 3) 0 rfl rfl dX12_lineNow_3 ?_
  refine hf_getf (pc := 4) fl_X12_269 dX12_lineNow_4 (fun v4 => ?_)
  refine hf_icmp_ge (pc := 7) 65 dX12_lineNow_7 rfl ?_ ?_
  · refine hf_iconst (pc := 65) dX12_lineNow_65 ?_
    exact hf_Jret (pc := 66) dX12_lineNow_66 (fun _ => rfl)
  · refine hf_ald_n (pc := 10) 0 rfl rfl dX12_lineNow_10 ?_
    refine hf_getf (pc := 11) fl_X12_50 dX12_lineNow_11 (fun v11 => ?_)
    refine hf_ild_n (pc := 14) 1 rfl rfl dX12_lineNow_14 ?_
    refine hf_iald (pc := 15) dX12_lineNow_15 (fun v15 => ?_)
    refine hf_ald_n (pc := 16) 0 rfl rfl dX12_lineNow_16 ?_
    refine hf_getf (pc := 17) fl_X12_47 dX12_lineNow_17 (fun v17 => ?_)
    refine hf_ild_n (pc := 20) 1 rfl rfl dX12_lineNow_20 ?_
    refine hf_iald (pc := 21) dX12_lineNow_21 (fun v21 => ?_)
    refine hf_icmp_ne (pc := 22) 27 dX12_lineNow_22 rfl ?_ ?_
    · refine hf_ald_n (pc := 27) 0 rfl rfl dX12_lineNow_27 ?_
      refine hf_ald_n (pc := 28) 0 rfl rfl dX12_lineNow_28 ?_
      refine hf_getf (pc := 29) fl_X12_47 dX12_lineNow_29 (fun v29 => ?_)
      refine hf_ild_n (pc := 32) 1 rfl rfl dX12_lineNow_32 ?_
      refine hf_iald (pc := 33) dX12_lineNow_33 (fun v33 => ?_)
      refine hf_ald_n (pc := 34) 0 rfl rfl dX12_lineNow_34 ?_
      refine hf_getf (pc := 35) fl_X12_50 dX12_lineNow_35 (fun v35 => ?_)
      refine hf_ild_n (pc := 38) 1 rfl rfl dX12_lineNow_38 ?_
      refine hf_iald (pc := 39) dX12_lineNow_39 (fun v39 => ?_)
      refine hf_cV (pc := 40) (N := M_X12_sumOf) (ts := [0, 0]) (vs := [v33, v39]) (st := []) (fun r => [(1, r)]) (c_X12_sumOf x0 v33 v39) cal_X12_sumOf ml_X12_298 ⟨hf_le rfl, hf_le rfl⟩ (hf_le rfl) ⟨rfl, rfl⟩ rfl dX12_lineNow_40 (fun _ => rfl) (fun v40 => ?_)
      refine hf_lst_n (pc := 43) (lv' := [(2, 1, v40), (0, 2, x0), (1, 0, x1)]) rfl (by decide) rfl dX12_lineNow_43 ?_
      refine hf_ald_n (pc := 44) 1 rfl rfl dX12_lineNow_44 ?_
      refine hf_getf (pc := 45) fl_X12_275 dX12_lineNow_45 (fun v45 => ?_)
      refine hf_if_ne (pc := 48) 59 dX12_lineNow_48 rfl ?_ ?_
      · exact hf_sub [1, 2] rfl (j_X12_lineNow_59 x0 x1 rec_2 hrec_2)
      · refine hf_lld_n (pc := 51) 0 rfl rfl dX12_lineNow_51 ?_
        refine hf_lconst (pc := 52) (v := 0) dX12_lineNow_52 (by decide) ?_
        refine hf_lcm_eq (pc := 53) 59 dX12_lineNow_53 dX12_lineNow_54 rfl ?_ ?_
        · exact hf_sub [1, 2] rfl (j_X12_lineNow_59 x0 x1 rec_2 hrec_2)
        · refine hf_ild_n (pc := 57) 2 rfl rfl dX12_lineNow_57 ?_
          exact hf_Jret (pc := 58) dX12_lineNow_58 (fun _ => rfl)
    · refine hf_ild_n (pc := 25) 1 rfl rfl dX12_lineNow_25 ?_
      exact hf_Jret (pc := 26) dX12_lineNow_26 (fun _ => rfl)
set_option maxRecDepth 20000 in
theorem j_X12_lineNow_2 (x0 x1 : Int) : hf_J M_X12_lineNow 2 [(0, 2, x0), (1, 0, x1)] [] (f_X12_lineNow_2 x0 x1) :=
  hf_Jfx (L := fun s => [(0, 2, x0), (1, 0, s)]) (fun rec hrec s => jb_X12_lineNow_2 x0 rec hrec s) hf_N x1
set_option maxRecDepth 20000 in
theorem c_X12_lineNow (x0 : Int) : hf_Met M_X12_lineNow [2] [x0] (f_X12_lineNow x0) := by
  refine hf_met rfl (by decide) (by decide) (by decide) ?_
  show hf_J M_X12_lineNow 0 [(0, 2, x0)] [] _
  refine hf_iconst (pc := 0) dX12_lineNow_0 ?_
  refine hf_ist_n (pc := 1) (lv' := [(1, 0, 0), (0, 2, x0)]) rfl (by decide) rfl dX12_lineNow_1 ?_
  exact hf_sub [1, 0] rfl (j_X12_lineNow_2 x0 0)
/-! HighFallModel.breaks(IIJ)Z -/
def M_X12_breaks : hf_D := (yX12_breaks, cX12_breaks, 5, some .boolean, 0, 0)
def f_X12_breaks (x0 x1 x2 x3 : Int) : hf_M Int :=
  hf_bd (hf_gf 12 4 x0) (fun v3 => hf_bd (hf_al 20 v3 x2) (fun v7 => hf_ck (hf_inI (x1 + v7)) (hf_ck (hf_inL x3 ∧ hf_inL (x1 + v7)) (hf_bd (hf_ret (if x3 ≤ (x1 + v7) then 0 else 1)) (fun w19 => hf_ck (w19 = 0 ∨ w19 = 1) (hf_ret w19))))))
theorem cal_X12_breaks : hf_cv M_X12_breaks 12 3 := ⟨⟨ii_X12, kc_X12_breaks, by decide, by decide, by decide +kernel⟩, ki_X12_breaks, kv_X12_breaks, _, rfl, rfl⟩
set_option maxRecDepth 20000 in
theorem c_X12_breaks (x0 x1 x2 x3 : Int) : hf_Met M_X12_breaks [2, 0, 0, 1] [x0, x1, x2, x3] (f_X12_breaks x0 x1 x2 x3) := by
  refine hf_met rfl (by decide) (by decide) (by decide) ?_
  show hf_J M_X12_breaks 0 [(0, 2, x0), (1, 0, x1), (2, 0, x2), (3, 1, x3)] [] _
  refine hf_lld_n (pc := 0) 3 rfl rfl dX12_breaks_0 ?_
  refine hf_ild_n (pc := 1) 1 rfl rfl dX12_breaks_1 ?_
  refine hf_ald_n (pc := 2) 0 rfl rfl dX12_breaks_2 ?_
  refine hf_getf (pc := 3) fl_X12_17 dX12_breaks_3 (fun v3 => ?_)
  refine hf_ild_n (pc := 6) 2 rfl rfl dX12_breaks_6 ?_
  refine hf_iald (pc := 7) dX12_breaks_7 (fun v7 => ?_)
  refine hf_iadd (pc := 8) dX12_breaks_8 ?_
  refine hf_i2l (pc := 9) dX12_breaks_9 ?_
  refine hf_Jdil (pc := 10) (pcM := 19) (t := 0) (stM := []) (fun w19 => ?_) (fun a1 a2 => ?_)
  · refine hf_Jck (fun hz => ?_)
    exact hf_Jret (pc := 19) ⟨dX12_breaks_19, hz⟩ (fun _ => rfl)
  · refine hf_lcm_le (pc := 10) 18 dX12_breaks_10 dX12_breaks_11 rfl ?_ ?_
    · refine hf_iconst (pc := 18) dX12_breaks_18 ?_
      exact a1
    · refine hf_iconst (pc := 14) dX12_breaks_14 ?_
      refine hf_goto (pc := 15) 19 dX12_breaks_15 rfl ?_
      exact a2
/-! HighFallModel.lets(III)V -/
def M_X12_lets : hf_D := (yX12_lets, cX12_lets, 7, none, 1, 24)
def f_X12_lets_200 (x0 x3 x4 : Int) : hf_M Int :=
  hf_bd (hf_gf 12 39 x0) (fun v201 => hf_bd (hf_gf 12 43 x0) (fun v206 => hf_ck (hf_inI v206) (hf_bd (hf_as 21 v201 3 v206) (fun _ => hf_bd (hf_gf 12 39 x0) (fun v212 => hf_ck (hf_inI x3) (hf_bd (hf_as 21 v212 4 x3) (fun _ => hf_bd (hf_gf 12 39 x0) (fun v220 => hf_ck (hf_inI x4) (hf_bd (hf_ret (if x4 = 0 then 0 else 1)) (fun w234 => hf_bd (hf_as 21 v220 5 w234) (fun _ => hf_ret 0)))))))))))
def f_X12_lets_167 (x0 x3 x4 s0 s1 s2 : Int) : hf_M Int :=
  hf_bd (hf_as 21 s0 s1 s2) (fun _ => f_X12_lets_200 x0 x3 x4)
def f_X12_lets_199 (x0 x3 x4 s0 s1 s2 : Int) : hf_M Int :=
  hf_bd (hf_as 21 s0 s1 s2) (fun _ => f_X12_lets_200 x0 x3 x4)
def f_X12_lets_90 (x0 x2 x3 x4 s0 s1 s2 s3 : Int) : hf_M Int :=
  hf_ck (hf_inI (s2 + s3)) (hf_bd (hf_pf 12 45 s0 (s1 + (s2 + s3))) (fun _ => hf_bd (hf_gf 12 4 x0) (fun v98 => hf_bd (hf_al 20 v98 x2) (fun v102 => hf_ck (hf_inI (x3 - v102)) (hf_bd (hf_ret (x3 - v102)) (fun x5_105 => hf_cz x4 (x4 = 0) (hf_bd (hf_gf 12 39 x0) (fun v172 => hf_bd (hf_gf 12 39 x0) (fun v179 => hf_bd (hf_al 21 v179 0) (fun v183 => hf_cl x5_105 v183 (x5_105 ≤ v183) (hf_bd (hf_gf 12 39 x0) (fun v194 => hf_bd (hf_al 21 v194 0) (fun v198 => f_X12_lets_199 x0 x3 x4 v172 0 v198))) (f_X12_lets_199 x0 x3 x4 v172 0 x5_105))))) (hf_bd (hf_gf 12 44 x0) (fun v114 => hf_bd (hf_pf 12 44 x0 (v114 + 1)) (fun _ => hf_bd (hf_gf 12 39 x0) (fun v123 => hf_bd (hf_al 21 v123 (6 + x2)) (fun v131 => hf_bd (hf_as 21 v123 (6 + x2) (v131 - 1)) (fun _ => hf_bd (hf_gf 12 39 x0) (fun v136 => hf_bd (hf_gf 12 39 x0) (fun v145 => hf_bd (hf_al 21 v145 1) (fun v149 => hf_cl (x5_105 - 1) v149 (v149 ≤ (x5_105 - 1)) (hf_bd (hf_gf 12 39 x0) (fun v162 => hf_bd (hf_al 21 v162 1) (fun v166 => f_X12_lets_167 x0 x3 x4 v136 1 v166))) (f_X12_lets_167 x0 x3 x4 v136 1 (x5_105 - 1)))))))))))))))))
def f_X12_lets (x0 x1 x2 x3 : Int) : hf_M Int :=
  hf_ck (hf_inI x3) (hf_bd (hf_ob 12 x0 (f_X12_breaks x0 x1 x2 x3)) (fun v5 => hf_bd (hf_gf 12 47 x0) (fun v11 => hf_bd (hf_gf 12 43 x0) (fun v15 => hf_bd (hf_as 20 v11 v15 x2) (fun _ => hf_bd (hf_gf 12 48 x0) (fun v21 => hf_bd (hf_gf 12 43 x0) (fun v25 => hf_bd (hf_as 20 v21 v25 x3) (fun _ => hf_bd (hf_gf 12 49 x0) (fun v31 => hf_bd (hf_gf 12 43 x0) (fun v35 => hf_ck (hf_inI v5) (hf_bd (hf_ret (if v5 = 0 then 0 else 1)) (fun w48 => hf_bd (hf_as 20 v31 v35 w48) (fun _ => hf_bd (hf_gf 12 43 x0) (fun v51 => hf_bd (hf_pf 12 43 x0 (v51 + 1)) (fun _ => hf_bd (hf_gf 12 45 x0) (fun v61 => hf_bd (hf_gf 12 8 x0) (fun v65 => hf_bd (hf_gf 12 9 x0) (fun v69 => hf_cz v5 (v5 = 0) (f_X12_lets_90 x0 x2 x3 v5 x0 v61 (v65 + (v69 * x3)) 0) (hf_bd (hf_gf 12 6 x0) (fun v81 => hf_bd (hf_al 20 v81 x2) (fun v85 => f_X12_lets_90 x0 x2 x3 v5 x0 v61 (v65 + (v69 * x3)) v85)))))))))))))))))))))
theorem cal_X12_lets : hf_cv M_X12_lets 12 3 := ⟨⟨ii_X12, kc_X12_lets, by decide, by decide, by decide +kernel⟩, ki_X12_lets, kv_X12_lets, _, rfl, rfl⟩
set_option maxRecDepth 20000 in
theorem j_X12_lets_200 (x0 x3 x4 : Int) : hf_J M_X12_lets 200 [(0, 2, x0), (3, 0, x3), (4, 0, x4)] [] (f_X12_lets_200 x0 x3 x4) := by
  refine hf_ald_n (pc := 200) 0 rfl rfl dX12_lets_200 ?_
  refine hf_getf (pc := 201) fl_X12_68 dX12_lets_201 (fun v201 => ?_)
  refine hf_iconst (pc := 204) dX12_lets_204 ?_
  refine hf_ald_n (pc := 205) 0 rfl rfl dX12_lets_205 ?_
  refine hf_getf (pc := 206) fl_X12_302 dX12_lets_206 (fun v206 => ?_)
  refine hf_i2l (pc := 209) dX12_lets_209 ?_
  refine hf_last (pc := 210) dX12_lets_210 ?_
  refine hf_ald_n (pc := 211) 0 rfl rfl dX12_lets_211 ?_
  refine hf_getf (pc := 212) fl_X12_68 dX12_lets_212 (fun v212 => ?_)
  refine hf_iconst (pc := 215) dX12_lets_215 ?_
  refine hf_ild_n (pc := 216) 1 rfl rfl dX12_lets_216 ?_
  refine hf_i2l (pc := 217) dX12_lets_217 ?_
  refine hf_last (pc := 218) dX12_lets_218 ?_
  refine hf_ald_n (pc := 219) 0 rfl rfl dX12_lets_219 ?_
  refine hf_getf (pc := 220) fl_X12_68 dX12_lets_220 (fun v220 => ?_)
  refine hf_iconst (pc := 223) dX12_lets_223 ?_
  refine hf_ild (pc := 224) 2 rfl dX12_lets_224 ?_
  refine hf_Jdiz (pc := 226) (pcM := 234) (t := 1) (stM := [(0, 5), (2, v220)]) (fun w234 => ?_) (fun a1 a2 => ?_)
  · refine hf_last (pc := 234) dX12_lets_234 ?_
    exact hf_Jret (pc := 235) dX12_lets_235 (fun _ => rfl)
  · refine hf_if_eq (pc := 226) 233 dX12_lets_226 rfl ?_ ?_
    · refine hf_lconst (pc := 233) (v := 0) dX12_lets_233 (by decide) ?_
      exact a1
    · refine hf_lconst (pc := 229) (v := 1) dX12_lets_229 (by decide) ?_
      refine hf_goto (pc := 230) 234 dX12_lets_230 rfl ?_
      exact a2
set_option maxRecDepth 20000 in
theorem j_X12_lets_167 (x0 x3 x4 s0 s1 s2 : Int) : hf_J M_X12_lets 167 [(0, 2, x0), (3, 0, x3), (4, 0, x4)] [(1, s2), (0, s1), (2, s0)] (f_X12_lets_167 x0 x3 x4 s0 s1 s2) := by
  refine hf_last (pc := 167) dX12_lets_167 ?_
  refine hf_goto (pc := 168) 200 dX12_lets_168 rfl ?_
  exact hf_sub [0, 1, 2] rfl (j_X12_lets_200 x0 x3 x4)
set_option maxRecDepth 20000 in
theorem j_X12_lets_199 (x0 x3 x4 s0 s1 s2 : Int) : hf_J M_X12_lets 199 [(0, 2, x0), (3, 0, x3), (4, 0, x4)] [(1, s2), (0, s1), (2, s0)] (f_X12_lets_199 x0 x3 x4 s0 s1 s2) := by
  refine hf_last (pc := 199) dX12_lets_199 ?_
  exact hf_sub [0, 1, 2] rfl (j_X12_lets_200 x0 x3 x4)
set_option maxRecDepth 20000 in
theorem j_X12_lets_90 (x0 x2 x3 x4 s0 s1 s2 s3 : Int) : hf_J M_X12_lets 90 [(0, 2, x0), (2, 0, x2), (3, 0, x3), (4, 0, x4)] [(0, s3), (0, s2), (1, s1), (2, s0)] (f_X12_lets_90 x0 x2 x3 x4 s0 s1 s2 s3) := by
  refine hf_iadd (pc := 90) dX12_lets_90 ?_
  refine hf_i2l (pc := 91) dX12_lets_91 ?_
  refine hf_ladd (pc := 92) dX12_lets_92 ?_
  refine hf_putf (pc := 93) fl_X12_308 trivial dX12_lets_93 ?_
  refine hf_ild_n (pc := 96) 2 rfl rfl dX12_lets_96 ?_
  refine hf_ald_n (pc := 97) 0 rfl rfl dX12_lets_97 ?_
  refine hf_getf (pc := 98) fl_X12_17 dX12_lets_98 (fun v98 => ?_)
  refine hf_ild_n (pc := 101) 1 rfl rfl dX12_lets_101 ?_
  refine hf_iald (pc := 102) dX12_lets_102 (fun v102 => ?_)
  refine hf_isub (pc := 103) dX12_lets_103 ?_
  refine hf_i2l (pc := 104) dX12_lets_104 ?_
  refine hf_lstB (pc := 105) (fun y => [(5, 1, y), (0, 2, x0), (2, 0, x2), (3, 0, x3), (4, 0, x4)]) (by decide) (fun _ => rfl) dX12_lets_105 (fun x5_105 => ?_)
  refine hf_ild (pc := 107) 4 rfl dX12_lets_107 ?_
  refine hf_if_eq (pc := 109) 171 dX12_lets_109 rfl ?_ ?_
  · refine hf_ald_n (pc := 171) 1 rfl rfl dX12_lets_171 ?_
    refine hf_getf (pc := 172) fl_X12_68 dX12_lets_172 (fun v172 => ?_)
    refine hf_iconst (pc := 175) dX12_lets_175 ?_
    refine hf_lld (pc := 176) 0 rfl dX12_lets_176 ?_
    refine hf_ald_n (pc := 178) 1 rfl rfl dX12_lets_178 ?_
    refine hf_getf (pc := 179) fl_X12_68 dX12_lets_179 (fun v179 => ?_)
    refine hf_iconst (pc := 182) dX12_lets_182 ?_
    refine hf_lald (pc := 183) dX12_lets_183 (fun v183 => ?_)
    refine hf_lcm_le (pc := 184) 193 dX12_lets_184 dX12_lets_185 rfl ?_ ?_
    · refine hf_ald_n (pc := 193) 1 rfl rfl dX12_lets_193 ?_
      refine hf_getf (pc := 194) fl_X12_68 dX12_lets_194 (fun v194 => ?_)
      refine hf_iconst (pc := 197) dX12_lets_197 ?_
      refine hf_lald (pc := 198) dX12_lets_198 (fun v198 => ?_)
      exact hf_sub [1, 3, 4] rfl (j_X12_lets_199 x0 x3 x4 v172 0 v198)
    · refine hf_lld (pc := 188) 0 rfl dX12_lets_188 ?_
      refine hf_goto (pc := 190) 199 dX12_lets_190 rfl ?_
      exact hf_sub [1, 3, 4] rfl (j_X12_lets_199 x0 x3 x4 v172 0 x5_105)
  · refine hf_ald_n (pc := 112) 1 rfl rfl dX12_lets_112 ?_
    refine hf_dup (pc := 113) (by decide) dX12_lets_113 ?_
    refine hf_getf (pc := 114) fl_X12_305 dX12_lets_114 (fun v114 => ?_)
    refine hf_iconst (pc := 117) dX12_lets_117 ?_
    refine hf_iadd (pc := 118) dX12_lets_118 ?_
    refine hf_putf (pc := 119) fl_X12_305 trivial dX12_lets_119 ?_
    refine hf_ald_n (pc := 122) 1 rfl rfl dX12_lets_122 ?_
    refine hf_getf (pc := 123) fl_X12_68 dX12_lets_123 (fun v123 => ?_)
    refine hf_bipush (pc := 126) dX12_lets_126 (by decide) ?_
    refine hf_ild_n (pc := 128) 2 rfl rfl dX12_lets_128 ?_
    refine hf_iadd (pc := 129) dX12_lets_129 ?_
    refine hf_dup2 (pc := 130) (by decide) (by decide) dX12_lets_130 ?_
    refine hf_lald (pc := 131) dX12_lets_131 (fun v131 => ?_)
    refine hf_lconst (pc := 132) (v := 1) dX12_lets_132 (by decide) ?_
    refine hf_lsub (pc := 133) dX12_lets_133 ?_
    refine hf_last (pc := 134) dX12_lets_134 ?_
    refine hf_ald_n (pc := 135) 1 rfl rfl dX12_lets_135 ?_
    refine hf_getf (pc := 136) fl_X12_68 dX12_lets_136 (fun v136 => ?_)
    refine hf_iconst (pc := 139) dX12_lets_139 ?_
    refine hf_lld (pc := 140) 0 rfl dX12_lets_140 ?_
    refine hf_lconst (pc := 142) (v := 1) dX12_lets_142 (by decide) ?_
    refine hf_lsub (pc := 143) dX12_lets_143 ?_
    refine hf_ald_n (pc := 144) 1 rfl rfl dX12_lets_144 ?_
    refine hf_getf (pc := 145) fl_X12_68 dX12_lets_145 (fun v145 => ?_)
    refine hf_iconst (pc := 148) dX12_lets_148 ?_
    refine hf_lald (pc := 149) dX12_lets_149 (fun v149 => ?_)
    refine hf_lcm_ge (pc := 150) 161 dX12_lets_150 dX12_lets_151 rfl ?_ ?_
    · refine hf_ald_n (pc := 161) 1 rfl rfl dX12_lets_161 ?_
      refine hf_getf (pc := 162) fl_X12_68 dX12_lets_162 (fun v162 => ?_)
      refine hf_iconst (pc := 165) dX12_lets_165 ?_
      refine hf_lald (pc := 166) dX12_lets_166 (fun v166 => ?_)
      exact hf_sub [1, 3, 4] rfl (j_X12_lets_167 x0 x3 x4 v136 1 v166)
    · refine hf_lld (pc := 154) 0 rfl dX12_lets_154 ?_
      refine hf_lconst (pc := 156) (v := 1) dX12_lets_156 (by decide) ?_
      refine hf_lsub (pc := 157) dX12_lets_157 ?_
      refine hf_goto (pc := 158) 167 dX12_lets_158 rfl ?_
      exact hf_sub [1, 3, 4] rfl (j_X12_lets_167 x0 x3 x4 v136 1 (x5_105 - 1))
set_option maxRecDepth 20000 in
theorem c_X12_lets (x0 x1 x2 x3 : Int) : hf_Met M_X12_lets [2, 0, 0, 0] [x0, x1, x2, x3] (f_X12_lets x0 x1 x2 x3) := by
  refine hf_met rfl (by decide) (by decide) (by decide) ?_
  show hf_J M_X12_lets 0 [(0, 2, x0), (1, 0, x1), (2, 0, x2), (3, 0, x3)] [] _
  refine hf_ald_n (pc := 0) 0 rfl rfl dX12_lets_0 ?_
  refine hf_ild_n (pc := 1) 1 rfl rfl dX12_lets_1 ?_
  refine hf_ild_n (pc := 2) 2 rfl rfl dX12_lets_2 ?_
  refine hf_ild_n (pc := 3) 3 rfl rfl dX12_lets_3 ?_
  refine hf_i2l (pc := 4) dX12_lets_4 ?_
  refine hf_cV (pc := 5) (N := M_X12_breaks) (ts := [0, 0, 1]) (vs := [x1, x2, x3]) (st := []) (fun r => [(0, r)]) (c_X12_breaks x0 x1 x2 x3) cal_X12_breaks ml_X12_326 ⟨hf_le rfl, hf_le rfl⟩ (hf_le rfl) ⟨rfl, rfl⟩ rfl dX12_lets_5 (fun _ => rfl) (fun v5 => ?_)
  refine hf_ist (pc := 8) (lv' := [(4, 0, v5), (0, 2, x0), (1, 0, x1), (2, 0, x2), (3, 0, x3)]) (by decide) rfl dX12_lets_8 ?_
  refine hf_ald_n (pc := 10) 1 rfl rfl dX12_lets_10 ?_
  refine hf_getf (pc := 11) fl_X12_75 dX12_lets_11 (fun v11 => ?_)
  refine hf_ald_n (pc := 14) 1 rfl rfl dX12_lets_14 ?_
  refine hf_getf (pc := 15) fl_X12_302 dX12_lets_15 (fun v15 => ?_)
  refine hf_ild_n (pc := 18) 3 rfl rfl dX12_lets_18 ?_
  refine hf_iast (pc := 19) dX12_lets_19 ?_
  refine hf_ald_n (pc := 20) 1 rfl rfl dX12_lets_20 ?_
  refine hf_getf (pc := 21) fl_X12_78 dX12_lets_21 (fun v21 => ?_)
  refine hf_ald_n (pc := 24) 1 rfl rfl dX12_lets_24 ?_
  refine hf_getf (pc := 25) fl_X12_302 dX12_lets_25 (fun v25 => ?_)
  refine hf_ild_n (pc := 28) 4 rfl rfl dX12_lets_28 ?_
  refine hf_iast (pc := 29) dX12_lets_29 ?_
  refine hf_ald_n (pc := 30) 1 rfl rfl dX12_lets_30 ?_
  refine hf_getf (pc := 31) fl_X12_81 dX12_lets_31 (fun v31 => ?_)
  refine hf_ald_n (pc := 34) 1 rfl rfl dX12_lets_34 ?_
  refine hf_getf (pc := 35) fl_X12_302 dX12_lets_35 (fun v35 => ?_)
  refine hf_ild (pc := 38) 0 rfl dX12_lets_38 ?_
  refine hf_Jdiz (pc := 40) (pcM := 48) (t := 0) (stM := [(0, v35), (2, v31)]) (fun w48 => ?_) (fun a1 a2 => ?_)
  · refine hf_iast (pc := 48) dX12_lets_48 ?_
    refine hf_ald_n (pc := 49) 1 rfl rfl dX12_lets_49 ?_
    refine hf_dup (pc := 50) (by decide) dX12_lets_50 ?_
    refine hf_getf (pc := 51) fl_X12_302 dX12_lets_51 (fun v51 => ?_)
    refine hf_iconst (pc := 54) dX12_lets_54 ?_
    refine hf_iadd (pc := 55) dX12_lets_55 ?_
    refine hf_putf (pc := 56) fl_X12_302 trivial dX12_lets_56 ?_
    refine hf_ald_n (pc := 59) 1 rfl rfl dX12_lets_59 ?_
    refine hf_dup (pc := 60) (by decide) dX12_lets_60 ?_
    refine hf_getf (pc := 61) fl_X12_308 dX12_lets_61 (fun v61 => ?_)
    refine hf_ald_n (pc := 64) 1 rfl rfl dX12_lets_64 ?_
    refine hf_getf (pc := 65) fl_X12_29 dX12_lets_65 (fun v65 => ?_)
    refine hf_ald_n (pc := 68) 1 rfl rfl dX12_lets_68 ?_
    refine hf_getf (pc := 69) fl_X12_148 dX12_lets_69 (fun v69 => ?_)
    refine hf_ild_n (pc := 72) 4 rfl rfl dX12_lets_72 ?_
    refine hf_imul (pc := 73) dX12_lets_73 ?_
    refine hf_iadd (pc := 74) dX12_lets_74 ?_
    refine hf_ild (pc := 75) 0 rfl dX12_lets_75 ?_
    refine hf_if_eq (pc := 77) 89 dX12_lets_77 rfl ?_ ?_
    · refine hf_iconst (pc := 89) dX12_lets_89 ?_
      exact hf_sub [1, 3, 4, 0] rfl (j_X12_lets_90 x0 x2 x3 v5 x0 v61 (v65 + (v69 * x3)) 0)
    · refine hf_ald_n (pc := 80) 1 rfl rfl dX12_lets_80 ?_
      refine hf_getf (pc := 81) fl_X12_23 dX12_lets_81 (fun v81 => ?_)
      refine hf_ild_n (pc := 84) 3 rfl rfl dX12_lets_84 ?_
      refine hf_iald (pc := 85) dX12_lets_85 (fun v85 => ?_)
      refine hf_goto (pc := 86) 90 dX12_lets_86 rfl ?_
      exact hf_sub [1, 3, 4, 0] rfl (j_X12_lets_90 x0 x2 x3 v5 x0 v61 (v65 + (v69 * x3)) v85)
  · refine hf_if_eq (pc := 40) 47 dX12_lets_40 rfl ?_ ?_
    · refine hf_iconst (pc := 47) dX12_lets_47 ?_
      exact a1
    · refine hf_iconst (pc := 43) dX12_lets_43 ?_
      refine hf_goto (pc := 44) 48 dX12_lets_44 rfl ?_
      exact a2
/-! HighFallModel.runs(I)V -/
def M_X12_runs : hf_D := (yX12_runs, cX12_runs, 6, none, 4, 96)
def B_X12_runs_95 (x0 x1 : Int) (rec_95 : Unit → hf_M Int) : hf_M Int :=
  hf_bd (hf_gf 12 39 x0) (fun v96 => hf_bd (hf_al 21 v96 0) (fun v100 => hf_bd (hf_gf 12 39 x0) (fun v102 => hf_bd (hf_al 21 v102 1) (fun v106 => hf_cl v100 v106 (v106 ≤ v100) (hf_ck (hf_inI x1) (hf_bd (hf_pf 12 46 x0 x1) (fun _ => hf_bd (hf_pf 12 42 x0 0) (fun _ => hf_ret 0)))) (hf_bd (hf_gf 12 39 x0) (fun v112 => hf_bd (hf_gf 12 39 x0) (fun v117 => hf_bd (hf_al 21 v117 1) (fun v121 => hf_bd (hf_gf 12 39 x0) (fun v123 => hf_bd (hf_al 21 v123 0) (fun v127 => hf_bd (hf_as 21 v112 2 (v121 - v127)) (fun _ => hf_bd (hf_ob 12 x0 (f_X12_lineNow x0)) (fun v131 => hf_cz v131 (0 ≤ v131) (hf_bd (hf_gf 12 28 x0) (fun v142 => hf_bd (hf_al 20 v142 v131) (fun v146 => hf_bd (hf_gf 12 29 x0) (fun v148 => hf_bd (hf_al 20 v148 v131) (fun v152 => hf_bd (hf_ob 12 x0 (f_X12_sumOf x0 v146 v152)) (fun v153 => hf_bd (hf_gf 12 41 x0) (fun v158 => hf_cz v158 (v158 = 0) (hf_bd (hf_gf 12 30 x0) (fun v166 => hf_bd (hf_al 20 v166 v131) (fun v170 => hf_cz v170 (0 ≤ v170) (hf_cl v153 1 (v153 < 1) (hf_ret 0) (hf_bd (hf_gf 12 3 x0) (fun v208 => hf_ck (hf_inI v208) (hf_cl v153 v208 (v208 < v153) (hf_ret 0) (hf_bd (hf_gf 12 39 x0) (fun v217 => hf_bd (hf_al 21 v217 (6 + v170)) (fun v225 => hf_cl v225 0 (v225 = 0) (hf_ret 0) (hf_bd (hf_gf 12 43 x0) (fun v232 => hf_cb v232 200 (¬ v232 = 200) (hf_bd (hf_ob 12 x0 (f_X12_lets x0 x1 v170 v153)) (fun _ => rec_95 ())) (hf_ret 0)))))))))) (hf_bd (hf_pf 12 46 x0 v153) (fun _ => hf_ck (hf_inI x1) (hf_ck (hf_inL v153 ∧ hf_inL x1) (hf_bd (hf_ret (if ¬ v153 = x1 then 2 else 1)) (fun w196 => hf_bd (hf_pf 12 42 x0 w196) (fun _ => hf_ret 0))))))))) (hf_ret 0)))))))) (hf_ret 0)))))))))))))
def f_X12_runs_95 (x0 x1 : Int) : hf_M Int := hf_fx (fun rec s => B_X12_runs_95 x0 x1 rec) hf_N ()
def B_X12_runs_41 (x0 x1 : Int) (rec_41 : Int → hf_M Int) (x2 : Int) : hf_M Int :=
  hf_cb x2 3 (3 ≤ x2) (hf_bd (hf_pf 12 43 x0 0) (fun _ => hf_bd (hf_pf 12 44 x0 0) (fun _ => hf_bd (hf_pf 12 45 x0 0) (fun _ => hf_bd (hf_pf 12 46 x0 (-1)) (fun _ => hf_bd (hf_pf 12 42 x0 3) (fun _ => f_X12_runs_95 x0 x1)))))) (hf_bd (hf_gf 12 39 x0) (fun v47 => hf_bd (hf_gf 12 5 x0) (fun v55 => hf_bd (hf_al 20 v55 x2) (fun v59 => hf_ck (hf_inI v59) (hf_bd (hf_as 21 v47 (6 + x2) v59) (fun _ => hf_bd (hf_ret (x2 + 1)) (fun x2_62 => rec_41 x2_62)))))))
def f_X12_runs_41 (x0 x1 x2 : Int) : hf_M Int := hf_fx (fun rec s => B_X12_runs_41 x0 x1 rec s) hf_N x2
def B_X12_runs_20 (x0 x1 : Int) (rec_20 : Int → hf_M Int) (x2 : Int) : hf_M Int :=
  hf_cb x2 6 (6 ≤ x2) (f_X12_runs_41 x0 x1 0) (hf_bd (hf_gf 12 39 x0) (fun v27 => hf_bd (hf_as 21 v27 x2 0) (fun _ => hf_bd (hf_ret (x2 + 1)) (fun x2_33 => rec_20 x2_33))))
def f_X12_runs_20 (x0 x1 x2 : Int) : hf_M Int := hf_fx (fun rec s => B_X12_runs_20 x0 x1 rec s) hf_N x2
def f_X12_runs (x0 x1 : Int) : hf_M Int :=
  hf_bd (hf_gf 12 39 x0) (fun v1 => hf_bd (hf_as 21 v1 0 0) (fun _ => hf_bd (hf_gf 12 39 x0) (fun v8 => hf_bd (hf_gf 12 3 x0) (fun v13 => hf_ck (hf_inI v13) (hf_bd (hf_as 21 v8 1 v13) (fun _ => f_X12_runs_20 x0 x1 3))))))
theorem cal_X12_runs : hf_cv M_X12_runs 12 1 := ⟨⟨ii_X12, kc_X12_runs, by decide, by decide, by decide +kernel⟩, ki_X12_runs, kv_X12_runs, _, rfl, rfl⟩
set_option maxRecDepth 20000 in
theorem jb_X12_runs_95 (x0 x1 : Int) (rec_95 : Unit → hf_M Int) (hrec_95 : ∀ s : Unit, hf_J M_X12_runs 95 [(0, 2, x0), (1, 0, x1)] [] (rec_95 s)) : hf_J M_X12_runs 95 [(0, 2, x0), (1, 0, x1)] [] (B_X12_runs_95 x0 x1 rec_95) := by
  refine hf_ald_n (pc := 95) 0 rfl rfl dX12_runs_95 ?_
  refine hf_getf (pc := 96) fl_X12_68 dX12_runs_96 (fun v96 => ?_)
  refine hf_iconst (pc := 99) dX12_runs_99 ?_
  refine hf_lald (pc := 100) dX12_runs_100 (fun v100 => ?_)
  refine hf_ald_n (pc := 101) 0 rfl rfl dX12_runs_101 ?_
  refine hf_getf (pc := 102) fl_X12_68 dX12_runs_102 (fun v102 => ?_)
  refine hf_iconst (pc := 105) dX12_runs_105 ?_
  refine hf_lald (pc := 106) dX12_runs_106 (fun v106 => ?_)
  refine hf_lcm_ge (pc := 107) 254 dX12_runs_107 dX12_runs_108 rfl ?_ ?_
  · refine hf_ald_n (pc := 254) 0 rfl rfl dX12_runs_254 ?_
    refine hf_ild_n (pc := 255) 1 rfl rfl dX12_runs_255 ?_
    refine hf_i2l (pc := 256) dX12_runs_256 ?_
    refine hf_putf (pc := 257) fl_X12_314 trivial dX12_runs_257 ?_
    refine hf_ald_n (pc := 260) 0 rfl rfl dX12_runs_260 ?_
    refine hf_iconst (pc := 261) dX12_runs_261 ?_
    refine hf_putf (pc := 262) fl_X12_317 trivial dX12_runs_262 ?_
    exact hf_Jret (pc := 265) dX12_runs_265 (fun _ => rfl)
  · refine hf_ald_n (pc := 111) 0 rfl rfl dX12_runs_111 ?_
    refine hf_getf (pc := 112) fl_X12_68 dX12_runs_112 (fun v112 => ?_)
    refine hf_iconst (pc := 115) dX12_runs_115 ?_
    refine hf_ald_n (pc := 116) 0 rfl rfl dX12_runs_116 ?_
    refine hf_getf (pc := 117) fl_X12_68 dX12_runs_117 (fun v117 => ?_)
    refine hf_iconst (pc := 120) dX12_runs_120 ?_
    refine hf_lald (pc := 121) dX12_runs_121 (fun v121 => ?_)
    refine hf_ald_n (pc := 122) 0 rfl rfl dX12_runs_122 ?_
    refine hf_getf (pc := 123) fl_X12_68 dX12_runs_123 (fun v123 => ?_)
    refine hf_iconst (pc := 126) dX12_runs_126 ?_
    refine hf_lald (pc := 127) dX12_runs_127 (fun v127 => ?_)
    refine hf_lsub (pc := 128) dX12_runs_128 ?_
    refine hf_last (pc := 129) dX12_runs_129 ?_
    refine hf_ald_n (pc := 130) 0 rfl rfl dX12_runs_130 ?_
    refine hf_cV (pc := 131) (N := M_X12_lineNow) (ts := []) (vs := []) (st := []) (fun r => [(0, r)]) (c_X12_lineNow x0) cal_X12_lineNow ml_X12_320 ⟨hf_le rfl, hf_le rfl⟩ (hf_le rfl) ⟨rfl, rfl⟩ rfl dX12_runs_131 (fun _ => rfl) (fun v131 => ?_)
    refine hf_ist_n (pc := 134) (lv' := [(2, 0, v131), (0, 2, x0), (1, 0, x1)]) rfl (by decide) rfl dX12_runs_134 ?_
    refine hf_ild_n (pc := 135) 0 rfl rfl dX12_runs_135 ?_
    refine hf_if_ge (pc := 136) 140 dX12_runs_136 rfl ?_ ?_
    · refine hf_ald_n (pc := 140) 1 rfl rfl dX12_runs_140 ?_
      refine hf_ald_n (pc := 141) 1 rfl rfl dX12_runs_141 ?_
      refine hf_getf (pc := 142) fl_X12_53 dX12_runs_142 (fun v142 => ?_)
      refine hf_ild_n (pc := 145) 0 rfl rfl dX12_runs_145 ?_
      refine hf_iald (pc := 146) dX12_runs_146 (fun v146 => ?_)
      refine hf_ald_n (pc := 147) 1 rfl rfl dX12_runs_147 ?_
      refine hf_getf (pc := 148) fl_X12_56 dX12_runs_148 (fun v148 => ?_)
      refine hf_ild_n (pc := 151) 0 rfl rfl dX12_runs_151 ?_
      refine hf_iald (pc := 152) dX12_runs_152 (fun v152 => ?_)
      refine hf_cV (pc := 153) (N := M_X12_sumOf) (ts := [0, 0]) (vs := [v146, v152]) (st := []) (fun r => [(1, r)]) (c_X12_sumOf x0 v146 v152) cal_X12_sumOf ml_X12_298 ⟨hf_le rfl, hf_le rfl⟩ (hf_le rfl) ⟨rfl, rfl⟩ rfl dX12_runs_153 (fun _ => rfl) (fun v153 => ?_)
      refine hf_lst_n (pc := 156) (lv' := [(3, 1, v153), (2, 0, v131), (0, 2, x0), (1, 0, x1)]) rfl (by decide) rfl dX12_runs_156 ?_
      refine hf_ald_n (pc := 157) 2 rfl rfl dX12_runs_157 ?_
      refine hf_getf (pc := 158) fl_X12_275 dX12_runs_158 (fun v158 => ?_)
      refine hf_if_eq (pc := 161) 165 dX12_runs_161 rfl ?_ ?_
      · refine hf_ald_n (pc := 165) 2 rfl rfl dX12_runs_165 ?_
        refine hf_getf (pc := 166) fl_X12_59 dX12_runs_166 (fun v166 => ?_)
        refine hf_ild_n (pc := 169) 1 rfl rfl dX12_runs_169 ?_
        refine hf_iald (pc := 170) dX12_runs_170 (fun v170 => ?_)
        refine hf_ist (pc := 171) (lv' := [(5, 0, v170), (3, 1, v153), (2, 0, v131), (0, 2, x0), (1, 0, x1)]) (by decide) rfl dX12_runs_171 ?_
        refine hf_ild (pc := 173) 0 rfl dX12_runs_173 ?_
        refine hf_if_ge (pc := 175) 200 dX12_runs_175 rfl ?_ ?_
        · refine hf_lld_n (pc := 200) 1 rfl rfl dX12_runs_200 ?_
          refine hf_lconst (pc := 201) (v := 1) dX12_runs_201 (by decide) ?_
          refine hf_lcm_lt (pc := 202) 241 dX12_runs_202 dX12_runs_203 rfl ?_ ?_
          · exact hf_Jret (pc := 241) dX12_runs_241 (fun _ => rfl)
          · refine hf_lld_n (pc := 206) 1 rfl rfl dX12_runs_206 ?_
            refine hf_ald_n (pc := 207) 3 rfl rfl dX12_runs_207 ?_
            refine hf_getf (pc := 208) fl_X12_13 dX12_runs_208 (fun v208 => ?_)
            refine hf_i2l (pc := 211) dX12_runs_211 ?_
            refine hf_lcm_gt (pc := 212) 241 dX12_runs_212 dX12_runs_213 rfl ?_ ?_
            · exact hf_Jret (pc := 241) dX12_runs_241 (fun _ => rfl)
            · refine hf_ald_n (pc := 216) 3 rfl rfl dX12_runs_216 ?_
              refine hf_getf (pc := 217) fl_X12_68 dX12_runs_217 (fun v217 => ?_)
              refine hf_bipush (pc := 220) dX12_runs_220 (by decide) ?_
              refine hf_ild (pc := 222) 0 rfl dX12_runs_222 ?_
              refine hf_iadd (pc := 224) dX12_runs_224 ?_
              refine hf_lald (pc := 225) dX12_runs_225 (fun v225 => ?_)
              refine hf_lconst (pc := 226) (v := 0) dX12_runs_226 (by decide) ?_
              refine hf_lcm_eq (pc := 227) 241 dX12_runs_227 dX12_runs_228 rfl ?_ ?_
              · exact hf_Jret (pc := 241) dX12_runs_241 (fun _ => rfl)
              · refine hf_ald_n (pc := 231) 3 rfl rfl dX12_runs_231 ?_
                refine hf_getf (pc := 232) fl_X12_302 dX12_runs_232 (fun v232 => ?_)
                refine hf_sipush (pc := 235) dX12_runs_235 (by decide) ?_
                refine hf_icmp_ne (pc := 238) 242 dX12_runs_238 rfl ?_ ?_
                · refine hf_ald_n (pc := 242) 3 rfl rfl dX12_runs_242 ?_
                  refine hf_ild_n (pc := 243) 4 rfl rfl dX12_runs_243 ?_
                  refine hf_ild (pc := 244) 0 rfl dX12_runs_244 ?_
                  refine hf_lld_n (pc := 246) 1 rfl rfl dX12_runs_246 ?_
                  refine hf_l2i (pc := 247) dX12_runs_247 ?_
                  refine hf_cV (pc := 248) (N := M_X12_lets) (ts := [0, 0, 0]) (vs := [x1, v170, v153]) (st := []) (fun r => []) (c_X12_lets x0 x1 v170 v153) cal_X12_lets ml_X12_323 ⟨hf_le rfl, hf_le rfl⟩ (hf_le rfl) ⟨rfl, rfl⟩ rfl dX12_runs_248 (fun _ => rfl) (fun _ => ?_)
                  refine hf_goto (pc := 251) 95 dX12_runs_251 rfl ?_
                  exact hf_sub [3, 4] rfl (hrec_95 ())
                · exact hf_Jret (pc := 241) dX12_runs_241 (fun _ => rfl)
        · refine hf_ald_n (pc := 178) 3 rfl rfl dX12_runs_178 ?_
          refine hf_lld_n (pc := 179) 1 rfl rfl dX12_runs_179 ?_
          refine hf_putf (pc := 180) fl_X12_314 trivial dX12_runs_180 ?_
          refine hf_ald_n (pc := 183) 3 rfl rfl dX12_runs_183 ?_
          refine hf_lld_n (pc := 184) 1 rfl rfl dX12_runs_184 ?_
          refine hf_ild_n (pc := 185) 4 rfl rfl dX12_runs_185 ?_
          refine hf_i2l (pc := 186) dX12_runs_186 ?_
          refine hf_Jdil (pc := 187) (pcM := 196) (t := 0) (stM := [(2, x0)]) (fun w196 => ?_) (fun a1 a2 => ?_)
          · refine hf_putf (pc := 196) fl_X12_317 trivial dX12_runs_196 ?_
            exact hf_Jret (pc := 199) dX12_runs_199 (fun _ => rfl)
          · refine hf_lcm_ne (pc := 187) 195 dX12_runs_187 dX12_runs_188 rfl ?_ ?_
            · refine hf_iconst (pc := 195) dX12_runs_195 ?_
              exact a1
            · refine hf_iconst (pc := 191) dX12_runs_191 ?_
              refine hf_goto (pc := 192) 196 dX12_runs_192 rfl ?_
              exact a2
      · exact hf_Jret (pc := 164) dX12_runs_164 (fun _ => rfl)
    · exact hf_Jret (pc := 139) dX12_runs_139 (fun _ => rfl)
set_option maxRecDepth 20000 in
theorem j_X12_runs_95 (x0 x1 : Int) : hf_J M_X12_runs 95 [(0, 2, x0), (1, 0, x1)] [] (f_X12_runs_95 x0 x1) :=
  hf_Jfx (L := fun s => [(0, 2, x0), (1, 0, x1)]) (fun rec hrec s => jb_X12_runs_95 x0 x1 rec hrec) hf_N ()
set_option maxRecDepth 20000 in
theorem jb_X12_runs_41 (x0 x1 : Int) (rec_41 : Int → hf_M Int) (hrec_41 : ∀ s : Int, hf_J M_X12_runs 41 [(0, 2, x0), (1, 0, x1), (2, 0, s)] [] (rec_41 s)) (x2 : Int) : hf_J M_X12_runs 41 [(0, 2, x0), (1, 0, x1), (2, 0, x2)] [] (B_X12_runs_41 x0 x1 rec_41 x2) := by
  refine hf_ild_n (pc := 41) 2 rfl rfl dX12_runs_41 ?_
  refine hf_iconst (pc := 42) dX12_runs_42 ?_
  refine hf_icmp_ge (pc := 43) 68 dX12_runs_43 rfl ?_ ?_
  · refine hf_ald_n (pc := 68) 0 rfl rfl dX12_runs_68 ?_
    refine hf_iconst (pc := 69) dX12_runs_69 ?_
    refine hf_putf (pc := 70) fl_X12_302 trivial dX12_runs_70 ?_
    refine hf_ald_n (pc := 73) 0 rfl rfl dX12_runs_73 ?_
    refine hf_iconst (pc := 74) dX12_runs_74 ?_
    refine hf_putf (pc := 75) fl_X12_305 trivial dX12_runs_75 ?_
    refine hf_ald_n (pc := 78) 0 rfl rfl dX12_runs_78 ?_
    refine hf_lconst (pc := 79) (v := 0) dX12_runs_79 (by decide) ?_
    refine hf_putf (pc := 80) fl_X12_308 trivial dX12_runs_80 ?_
    refine hf_ald_n (pc := 83) 0 rfl rfl dX12_runs_83 ?_
    refine hf_ldc2 (pc := 84) (n := (-1)) co_X12_312 (by decide) dX12_runs_84 ?_
    refine hf_putf (pc := 87) fl_X12_314 trivial dX12_runs_87 ?_
    refine hf_ald_n (pc := 90) 0 rfl rfl dX12_runs_90 ?_
    refine hf_iconst (pc := 91) dX12_runs_91 ?_
    refine hf_putf (pc := 92) fl_X12_317 trivial dX12_runs_92 ?_
    exact hf_sub [0, 1] rfl (j_X12_runs_95 x0 x1)
  · refine hf_ald_n (pc := 46) 0 rfl rfl dX12_runs_46 ?_
    refine hf_getf (pc := 47) fl_X12_68 dX12_runs_47 (fun v47 => ?_)
    refine hf_bipush (pc := 50) dX12_runs_50 (by decide) ?_
    refine hf_ild_n (pc := 52) 2 rfl rfl dX12_runs_52 ?_
    refine hf_iadd (pc := 53) dX12_runs_53 ?_
    refine hf_ald_n (pc := 54) 0 rfl rfl dX12_runs_54 ?_
    refine hf_getf (pc := 55) fl_X12_20 dX12_runs_55 (fun v55 => ?_)
    refine hf_ild_n (pc := 58) 2 rfl rfl dX12_runs_58 ?_
    refine hf_iald (pc := 59) dX12_runs_59 (fun v59 => ?_)
    refine hf_i2l (pc := 60) dX12_runs_60 ?_
    refine hf_last (pc := 61) dX12_runs_61 ?_
    refine hf_iincB (pc := 62) (fun y => [(2, 0, y), (0, 2, x0), (1, 0, x1)]) (q := 2) rfl (by decide) (fun _ => rfl) dX12_runs_62 (fun x2_62 => ?_)
    refine hf_goto (pc := 65) 41 dX12_runs_65 rfl ?_
    exact hf_sub [1, 2, 0] rfl (hrec_41 x2_62)
set_option maxRecDepth 20000 in
theorem j_X12_runs_41 (x0 x1 x2 : Int) : hf_J M_X12_runs 41 [(0, 2, x0), (1, 0, x1), (2, 0, x2)] [] (f_X12_runs_41 x0 x1 x2) :=
  hf_Jfx (L := fun s => [(0, 2, x0), (1, 0, x1), (2, 0, s)]) (fun rec hrec s => jb_X12_runs_41 x0 x1 rec hrec s) hf_N x2
set_option maxRecDepth 20000 in
theorem jb_X12_runs_20 (x0 x1 : Int) (rec_20 : Int → hf_M Int) (hrec_20 : ∀ s : Int, hf_J M_X12_runs 20 [(0, 2, x0), (1, 0, x1), (2, 0, s)] [] (rec_20 s)) (x2 : Int) : hf_J M_X12_runs 20 [(0, 2, x0), (1, 0, x1), (2, 0, x2)] [] (B_X12_runs_20 x0 x1 rec_20 x2) := by
  refine hf_ild_n (pc := 20) 2 rfl rfl dX12_runs_20 ?_
  refine hf_bipush (pc := 21) dX12_runs_21 (by decide) ?_
  refine hf_icmp_ge (pc := 23) 39 dX12_runs_23 rfl ?_ ?_
  · refine hf_iconst (pc := 39) dX12_runs_39 ?_
    refine hf_ist_n (pc := 40) (lv' := [(2, 0, 0), (0, 2, x0), (1, 0, x1)]) rfl (by decide) rfl dX12_runs_40 ?_
    exact hf_sub [1, 2, 0] rfl (j_X12_runs_41 x0 x1 0)
  · refine hf_ald_n (pc := 26) 0 rfl rfl dX12_runs_26 ?_
    refine hf_getf (pc := 27) fl_X12_68 dX12_runs_27 (fun v27 => ?_)
    refine hf_ild_n (pc := 30) 2 rfl rfl dX12_runs_30 ?_
    refine hf_lconst (pc := 31) (v := 0) dX12_runs_31 (by decide) ?_
    refine hf_last (pc := 32) dX12_runs_32 ?_
    refine hf_iincB (pc := 33) (fun y => [(2, 0, y), (0, 2, x0), (1, 0, x1)]) (q := 2) rfl (by decide) (fun _ => rfl) dX12_runs_33 (fun x2_33 => ?_)
    refine hf_goto (pc := 36) 20 dX12_runs_36 rfl ?_
    exact hf_sub [1, 2, 0] rfl (hrec_20 x2_33)
set_option maxRecDepth 20000 in
theorem j_X12_runs_20 (x0 x1 x2 : Int) : hf_J M_X12_runs 20 [(0, 2, x0), (1, 0, x1), (2, 0, x2)] [] (f_X12_runs_20 x0 x1 x2) :=
  hf_Jfx (L := fun s => [(0, 2, x0), (1, 0, x1), (2, 0, s)]) (fun rec hrec s => jb_X12_runs_20 x0 x1 rec hrec s) hf_N x2
set_option maxRecDepth 20000 in
theorem c_X12_runs (x0 x1 : Int) : hf_Met M_X12_runs [2, 0] [x0, x1] (f_X12_runs x0 x1) := by
  refine hf_met rfl (by decide) (by decide) (by decide) ?_
  show hf_J M_X12_runs 0 [(0, 2, x0), (1, 0, x1)] [] _
  refine hf_ald_n (pc := 0) 0 rfl rfl dX12_runs_0 ?_
  refine hf_getf (pc := 1) fl_X12_68 dX12_runs_1 (fun v1 => ?_)
  refine hf_iconst (pc := 4) dX12_runs_4 ?_
  refine hf_lconst (pc := 5) (v := 0) dX12_runs_5 (by decide) ?_
  refine hf_last (pc := 6) dX12_runs_6 ?_
  refine hf_ald_n (pc := 7) 0 rfl rfl dX12_runs_7 ?_
  refine hf_getf (pc := 8) fl_X12_68 dX12_runs_8 (fun v8 => ?_)
  refine hf_iconst (pc := 11) dX12_runs_11 ?_
  refine hf_ald_n (pc := 12) 0 rfl rfl dX12_runs_12 ?_
  refine hf_getf (pc := 13) fl_X12_13 dX12_runs_13 (fun v13 => ?_)
  refine hf_i2l (pc := 16) dX12_runs_16 ?_
  refine hf_last (pc := 17) dX12_runs_17 ?_
  refine hf_iconst (pc := 18) dX12_runs_18 ?_
  refine hf_ist_n (pc := 19) (lv' := [(2, 0, 3), (0, 2, x0), (1, 0, x1)]) rfl (by decide) rfl dX12_runs_19 ?_
  exact hf_sub [1, 2, 0] rfl (j_X12_runs_20 x0 x1 3)
