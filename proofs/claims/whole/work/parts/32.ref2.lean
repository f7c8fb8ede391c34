/-! HighFallModel.tried(II)J -/
def M_X12_tried : hf_D := (yX12_tried, cX12_tried, 3, some .long, 5, 121)
def f_X12_tried_33 : hf_M Int :=
  hf_ret (-1)
def f_X12_tried (x0 x1 x2 : Int) : hf_M Int :=
  hf_bd (hf_pf 12 2 x0 0) (fun _ => hf_bd (hf_gf 12 18 x0) (fun v6 => hf_cz v6 (¬ v6 = 0) (hf_bd (hf_ob 12 x0 (f_X12_isStrength x0 x1)) (fun v18 => hf_cz v18 (v18 = 0) (f_X12_tried_33) (hf_bd (f_X12_isIn x2 0 4) (fun v27 => hf_cz v27 (¬ v27 = 0) (hf_bd (hf_ob 12 x0 (f_X12_runs x0 x1)) (fun _ => hf_cz x2 (¬ x2 = 0) (hf_cb x2 1 (¬ x2 = 1) (hf_cb x2 2 (¬ x2 = 2) (hf_cb x2 3 (¬ x2 = 3) (hf_bd (hf_gf 12 46 x0) (fun v93 => hf_ret v93)) (hf_bd (hf_gf 12 45 x0) (fun v86 => hf_ret v86))) (hf_bd (hf_gf 12 44 x0) (fun v73 => hf_ck (hf_inI v73) (hf_ret v73)))) (hf_bd (hf_gf 12 43 x0) (fun v60 => hf_ck (hf_inI v60) (hf_ret v60)))) (hf_bd (hf_gf 12 42 x0) (fun v47 => hf_ck (hf_inI v47) (hf_ret v47))))) (f_X12_tried_33))))) (hf_ret (-2))))
theorem cal_X12_tried : hf_cv M_X12_tried 12 2 := ⟨⟨ii_X12, kc_X12_tried, by decide, by decide, by decide +kernel⟩, ki_X12_tried, kv_X12_tried, _, rfl, rfl⟩
set_option maxRecDepth 20000 in
theorem j_X12_tried_33 : hf_J M_X12_tried 33 [] [] (f_X12_tried_33) := by
  refine hf_ldc2 (pc := 33) (n := (-1)) co_X12_312 (by decide) dX12_tried_33 ?_
  exact hf_Jret (pc := 36) dX12_tried_36 (fun _ => rfl)
set_option maxRecDepth 20000 in
theorem c_X12_tried (x0 x1 x2 : Int) : hf_Met M_X12_tried [2, 0, 0] [x0, x1, x2] (f_X12_tried x0 x1 x2) := by
  refine hf_met rfl (by decide) (by decide) (by decide) ?_
  show hf_J M_X12_tried 0 [(0, 2, x0), (1, 0, x1), (2, 0, x2)] [] _
  refine hf_ald_n (pc := 0) 0 rfl rfl dX12_tried_0 ?_
  refine hf_iconst (pc := 1) dX12_tried_1 ?_
  refine hf_putf (pc := 2) fl_X12_127 trivial dX12_tried_2 ?_
  refine hf_ald_n (pc := 5) 0 rfl rfl dX12_tried_5 ?_
  refine hf_getf (pc := 6) fl_X12_266 dX12_tried_6 (fun v6 => ?_)
  refine hf_if_ne (pc := 9) 16 dX12_tried_9 rfl ?_ ?_
  · refine hf_ald_n (pc := 16) 0 rfl rfl dX12_tried_16 ?_
    refine hf_ild_n (pc := 17) 1 rfl rfl dX12_tried_17 ?_
    refine hf_cV (pc := 18) (N := M_X12_isStrength) (ts := [0]) (vs := [x1]) (st := []) (fun r => [(0, r)]) (c_X12_isStrength x0 x1) cal_X12_isStrength ml_X12_151 ⟨hf_le rfl, hf_le rfl⟩ (hf_le rfl) ⟨rfl, rfl⟩ rfl dX12_tried_18 (fun _ => rfl) (fun v18 => ?_)
    refine hf_if_eq (pc := 21) 33 dX12_tried_21 rfl ?_ ?_
    · exact hf_sub [] rfl j_X12_tried_33
    · refine hf_ild_n (pc := 24) 2 rfl rfl dX12_tried_24 ?_
      refine hf_iconst (pc := 25) dX12_tried_25 ?_
      refine hf_iconst (pc := 26) dX12_tried_26 ?_
      refine hf_cS (pc := 27) (N := M_X12_isIn) (ts := [0, 0, 0]) (vs := [x2, 0, 4]) (st := []) (fun r => [(0, r)]) (c_X12_isIn x2 0 4) cal_X12_isIn ml_X12_133 ⟨hf_le rfl, hf_le rfl⟩ (hf_le rfl) ⟨rfl, rfl⟩ rfl dX12_tried_27 (fun _ => rfl) (fun v27 => ?_)
      refine hf_if_ne (pc := 30) 37 dX12_tried_30 rfl ?_ ?_
      · refine hf_ald_n (pc := 37) 0 rfl rfl dX12_tried_37 ?_
        refine hf_ild_n (pc := 38) 1 rfl rfl dX12_tried_38 ?_
        refine hf_cV (pc := 39) (N := M_X12_runs) (ts := [0]) (vs := [x1]) (st := []) (fun r => []) (c_X12_runs x0 x1) cal_X12_runs ml_X12_332 ⟨hf_le rfl, hf_le rfl⟩ (hf_le rfl) ⟨rfl, rfl⟩ rfl dX12_tried_39 (fun _ => rfl) (fun _ => ?_)
        refine hf_ild_n (pc := 42) 2 rfl rfl dX12_tried_42 ?_
        refine hf_if_ne (pc := 43) 54 dX12_tried_43 rfl ?_ ?_
        · refine hf_ild_n (pc := 54) 2 rfl rfl dX12_tried_54 ?_
          refine hf_iconst (pc := 55) dX12_tried_55 ?_
          refine hf_icmp_ne (pc := 56) 67 dX12_tried_56 rfl ?_ ?_
          · refine hf_ild_n (pc := 67) 2 rfl rfl dX12_tried_67 ?_
            refine hf_iconst (pc := 68) dX12_tried_68 ?_
            refine hf_icmp_ne (pc := 69) 80 dX12_tried_69 rfl ?_ ?_
            · refine hf_ild_n (pc := 80) 2 rfl rfl dX12_tried_80 ?_
              refine hf_iconst (pc := 81) dX12_tried_81 ?_
              refine hf_icmp_ne (pc := 82) 92 dX12_tried_82 rfl ?_ ?_
              · refine hf_ald_n (pc := 92) 0 rfl rfl dX12_tried_92 ?_
                refine hf_getf (pc := 93) fl_X12_314 dX12_tried_93 (fun v93 => ?_)
                exact hf_Jret (pc := 96) dX12_tried_96 (fun _ => rfl)
              · refine hf_ald_n (pc := 85) 0 rfl rfl dX12_tried_85 ?_
                refine hf_getf (pc := 86) fl_X12_308 dX12_tried_86 (fun v86 => ?_)
                refine hf_goto (pc := 89) 96 dX12_tried_89 rfl ?_
                exact hf_Jret (pc := 96) dX12_tried_96 (fun _ => rfl)
            · refine hf_ald_n (pc := 72) 0 rfl rfl dX12_tried_72 ?_
              refine hf_getf (pc := 73) fl_X12_305 dX12_tried_73 (fun v73 => ?_)
              refine hf_i2l (pc := 76) dX12_tried_76 ?_
              refine hf_goto (pc := 77) 96 dX12_tried_77 rfl ?_
              exact hf_Jret (pc := 96) dX12_tried_96 (fun _ => rfl)
          · refine hf_ald_n (pc := 59) 0 rfl rfl dX12_tried_59 ?_
            refine hf_getf (pc := 60) fl_X12_302 dX12_tried_60 (fun v60 => ?_)
            refine hf_i2l (pc := 63) dX12_tried_63 ?_
            refine hf_goto (pc := 64) 96 dX12_tried_64 rfl ?_
            exact hf_Jret (pc := 96) dX12_tried_96 (fun _ => rfl)
        · refine hf_ald_n (pc := 46) 0 rfl rfl dX12_tried_46 ?_
          refine hf_getf (pc := 47) fl_X12_317 dX12_tried_47 (fun v47 => ?_)
          refine hf_i2l (pc := 50) dX12_tried_50 ?_
          refine hf_goto (pc := 51) 96 dX12_tried_51 rfl ?_
          exact hf_Jret (pc := 96) dX12_tried_96 (fun _ => rfl)
      · exact hf_sub [] rfl j_X12_tried_33
  · refine hf_ldc2 (pc := 12) (n := (-2)) co_X12_330 (by decide) dX12_tried_12 ?_
    exact hf_Jret (pc := 15) dX12_tried_15 (fun _ => rfl)
/-! HighFallModel.fall(III)I -/
def M_X12_fall : hf_D := (yX12_fall, cX12_fall, 4, some .int, 5, 121)
def f_X12_fall (x0 x1 x2 x3 : Int) : hf_M Int :=
  hf_bd (hf_pf 12 2 x0 0) (fun _ => hf_bd (hf_gf 12 18 x0) (fun v6 => hf_cz v6 (¬ v6 = 0) (hf_bd (hf_ob 12 x0 (f_X12_isStrength x0 x1)) (fun v17 => hf_cz v17 (v17 = 0) (hf_ret (-1)) (hf_bd (f_X12_isIn x3 0 2) (fun v26 => hf_cz v26 (¬ v26 = 0) (hf_bd (hf_ob 12 x0 (f_X12_runs x0 x1)) (fun _ => hf_cz x2 (x2 < 0) (hf_ret (-1)) (hf_bd (hf_gf 12 43 x0) (fun v45 => hf_cb x2 v45 (x2 < v45) (hf_cz x3 (¬ x3 = 0) (hf_cb x3 1 (¬ x3 = 1) (hf_bd (hf_gf 12 49 x0) (fun v81 => hf_bd (hf_al 20 v81 x2) (fun v85 => hf_ret v85))) (hf_bd (hf_gf 12 48 x0) (fun v72 => hf_bd (hf_al 20 v72 x2) (fun v76 => hf_ret v76)))) (hf_bd (hf_gf 12 47 x0) (fun v58 => hf_bd (hf_al 20 v58 x2) (fun v62 => hf_ret v62)))) (hf_ret (-1)))))) (hf_ret (-1)))))) (hf_ret (-2))))
theorem cal_X12_fall : hf_cv M_X12_fall 12 3 := ⟨⟨ii_X12, kc_X12_fall, by decide, by decide, by decide +kernel⟩, ki_X12_fall, kv_X12_fall, _, rfl, rfl⟩
set_option maxRecDepth 20000 in
theorem c_X12_fall (x0 x1 x2 x3 : Int) : hf_Met M_X12_fall [2, 0, 0, 0] [x0, x1, x2, x3] (f_X12_fall x0 x1 x2 x3) := by
  refine hf_met rfl (by decide) (by decide) (by decide) ?_
  show hf_J M_X12_fall 0 [(0, 2, x0), (1, 0, x1), (2, 0, x2), (3, 0, x3)] [] _
  refine hf_ald_n (pc := 0) 0 rfl rfl dX12_fall_0 ?_
  refine hf_iconst (pc := 1) dX12_fall_1 ?_
  refine hf_putf (pc := 2) fl_X12_127 trivial dX12_fall_2 ?_
  refine hf_ald_n (pc := 5) 0 rfl rfl dX12_fall_5 ?_
  refine hf_getf (pc := 6) fl_X12_266 dX12_fall_6 (fun v6 => ?_)
  refine hf_if_ne (pc := 9) 15 dX12_fall_9 rfl ?_ ?_
  · refine hf_ald_n (pc := 15) 0 rfl rfl dX12_fall_15 ?_
    refine hf_ild_n (pc := 16) 1 rfl rfl dX12_fall_16 ?_
    refine hf_cV (pc := 17) (N := M_X12_isStrength) (ts := [0]) (vs := [x1]) (st := []) (fun r => [(0, r)]) (c_X12_isStrength x0 x1) cal_X12_isStrength ml_X12_151 ⟨hf_le rfl, hf_le rfl⟩ (hf_le rfl) ⟨rfl, rfl⟩ rfl dX12_fall_17 (fun _ => rfl) (fun v17 => ?_)
    refine hf_if_eq (pc := 20) 32 dX12_fall_20 rfl ?_ ?_
    · refine hf_iconst (pc := 32) dX12_fall_32 ?_
      exact hf_Jret (pc := 33) dX12_fall_33 (fun _ => rfl)
    · refine hf_ild_n (pc := 23) 3 rfl rfl dX12_fall_23 ?_
      refine hf_iconst (pc := 24) dX12_fall_24 ?_
      refine hf_iconst (pc := 25) dX12_fall_25 ?_
      refine hf_cS (pc := 26) (N := M_X12_isIn) (ts := [0, 0, 0]) (vs := [x3, 0, 2]) (st := []) (fun r => [(0, r)]) (c_X12_isIn x3 0 2) cal_X12_isIn ml_X12_133 ⟨hf_le rfl, hf_le rfl⟩ (hf_le rfl) ⟨rfl, rfl⟩ rfl dX12_fall_26 (fun _ => rfl) (fun v26 => ?_)
      refine hf_if_ne (pc := 29) 34 dX12_fall_29 rfl ?_ ?_
      · refine hf_ald_n (pc := 34) 0 rfl rfl dX12_fall_34 ?_
        refine hf_ild_n (pc := 35) 1 rfl rfl dX12_fall_35 ?_
        refine hf_cV (pc := 36) (N := M_X12_runs) (ts := [0]) (vs := [x1]) (st := []) (fun r => []) (c_X12_runs x0 x1) cal_X12_runs ml_X12_332 ⟨hf_le rfl, hf_le rfl⟩ (hf_le rfl) ⟨rfl, rfl⟩ rfl dX12_fall_36 (fun _ => rfl) (fun _ => ?_)
        refine hf_ild_n (pc := 39) 2 rfl rfl dX12_fall_39 ?_
        refine hf_if_lt (pc := 40) 51 dX12_fall_40 rfl ?_ ?_
        · refine hf_iconst (pc := 51) dX12_fall_51 ?_
          exact hf_Jret (pc := 52) dX12_fall_52 (fun _ => rfl)
        · refine hf_ild_n (pc := 43) 2 rfl rfl dX12_fall_43 ?_
          refine hf_ald_n (pc := 44) 0 rfl rfl dX12_fall_44 ?_
          refine hf_getf (pc := 45) fl_X12_302 dX12_fall_45 (fun v45 => ?_)
          refine hf_icmp_lt (pc := 48) 53 dX12_fall_48 rfl ?_ ?_
          · refine hf_ild_n (pc := 53) 3 rfl rfl dX12_fall_53 ?_
            refine hf_if_ne (pc := 54) 66 dX12_fall_54 rfl ?_ ?_
            · refine hf_ild_n (pc := 66) 3 rfl rfl dX12_fall_66 ?_
              refine hf_iconst (pc := 67) dX12_fall_67 ?_
              refine hf_icmp_ne (pc := 68) 80 dX12_fall_68 rfl ?_ ?_
              · refine hf_ald_n (pc := 80) 0 rfl rfl dX12_fall_80 ?_
                refine hf_getf (pc := 81) fl_X12_81 dX12_fall_81 (fun v81 => ?_)
                refine hf_ild_n (pc := 84) 2 rfl rfl dX12_fall_84 ?_
                refine hf_iald (pc := 85) dX12_fall_85 (fun v85 => ?_)
                exact hf_Jret (pc := 86) dX12_fall_86 (fun _ => rfl)
              · refine hf_ald_n (pc := 71) 0 rfl rfl dX12_fall_71 ?_
                refine hf_getf (pc := 72) fl_X12_78 dX12_fall_72 (fun v72 => ?_)
                refine hf_ild_n (pc := 75) 2 rfl rfl dX12_fall_75 ?_
                refine hf_iald (pc := 76) dX12_fall_76 (fun v76 => ?_)
                refine hf_goto (pc := 77) 86 dX12_fall_77 rfl ?_
                exact hf_Jret (pc := 86) dX12_fall_86 (fun _ => rfl)
            · refine hf_ald_n (pc := 57) 0 rfl rfl dX12_fall_57 ?_
              refine hf_getf (pc := 58) fl_X12_75 dX12_fall_58 (fun v58 => ?_)
              refine hf_ild_n (pc := 61) 2 rfl rfl dX12_fall_61 ?_
              refine hf_iald (pc := 62) dX12_fall_62 (fun v62 => ?_)
              refine hf_goto (pc := 63) 86 dX12_fall_63 rfl ?_
              exact hf_Jret (pc := 86) dX12_fall_86 (fun _ => rfl)
          · refine hf_iconst (pc := 51) dX12_fall_51 ?_
            exact hf_Jret (pc := 52) dX12_fall_52 (fun _ => rfl)
      · refine hf_iconst (pc := 32) dX12_fall_32 ?_
        exact hf_Jret (pc := 33) dX12_fall_33 (fun _ => rfl)
  · refine hf_bipush (pc := 12) dX12_fall_12 (by decide) ?_
    exact hf_Jret (pc := 14) dX12_fall_14 (fun _ => rfl)
/-! HighFallModel.judge(I)J -/
def M_X12_judge : hf_D := (yX12_judge, cX12_judge, 5, some .long, 5, 121)
def f_X12_judge_195 (rec_34 : Int × Int → hf_M Int) (x0 x1 x2 x4 : Int) : hf_M Int :=
  hf_bd (hf_ret (x4 + 1)) (fun x4_195 => rec_34 (x2, x4_195))
def f_X12_judge_193 (rec_34 : Int × Int → hf_M Int) (x0 x1 x4 s0 s1 : Int) : hf_M Int :=
  hf_bd (hf_ret (s0 + s1)) (fun x2_194 => f_X12_judge_195 rec_34 x0 x1 x2_194 x4)
def f_X12_judge_167 (rec_34 : Int × Int → hf_M Int) (x0 x1 x2 x4 : Int) : hf_M Int :=
  hf_cb x1 5 (¬ x1 = 5) (f_X12_judge_195 rec_34 x0 x1 x2 x4) (hf_bd (hf_gf 12 42 x0) (fun v174 => hf_cb v174 3 (¬ v174 = 3) (f_X12_judge_193 rec_34 x0 x1 x4 x2 0) (hf_bd (hf_gf 12 7 x0) (fun v182 => hf_bd (hf_al 20 v182 x4) (fun v187 => hf_ck (hf_inI v187) (f_X12_judge_193 rec_34 x0 x1 x4 x2 v187))))))
def f_X12_judge_165 (rec_34 : Int × Int → hf_M Int) (x0 x1 x4 s0 s1 : Int) : hf_M Int :=
  hf_bd (hf_ret (s0 + s1)) (fun x2_166 => f_X12_judge_167 rec_34 x0 x1 x2_166 x4)
def f_X12_judge_139 (rec_34 : Int × Int → hf_M Int) (x0 x1 x2 x4 : Int) : hf_M Int :=
  hf_cb x1 4 (¬ x1 = 4) (f_X12_judge_167 rec_34 x0 x1 x2 x4) (hf_bd (hf_gf 12 42 x0) (fun v146 => hf_cb v146 2 (¬ v146 = 2) (f_X12_judge_165 rec_34 x0 x1 x4 x2 0) (hf_bd (hf_gf 12 7 x0) (fun v154 => hf_bd (hf_al 20 v154 x4) (fun v159 => hf_ck (hf_inI v159) (f_X12_judge_165 rec_34 x0 x1 x4 x2 v159))))))
def f_X12_judge_118 (rec_34 : Int × Int → hf_M Int) (x0 x1 x2 x4 : Int) : hf_M Int :=
  hf_cb x1 3 (¬ x1 = 3) (f_X12_judge_139 rec_34 x0 x1 x2 x4) (hf_bd (hf_gf 12 7 x0) (fun v125 => hf_bd (hf_al 20 v125 x4) (fun v130 => hf_ck (hf_inI v130) (hf_bd (hf_gf 12 45 x0) (fun v133 => hf_bd (hf_ret (x2 + (v130 * v133))) (fun x2_138 => f_X12_judge_139 rec_34 x0 x1 x2_138 x4))))))
def f_X12_judge_96 (rec_34 : Int × Int → hf_M Int) (x0 x1 x2 x4 : Int) : hf_M Int :=
  hf_cb x1 2 (¬ x1 = 2) (f_X12_judge_118 rec_34 x0 x1 x2 x4) (hf_bd (hf_gf 12 7 x0) (fun v103 => hf_bd (hf_al 20 v103 x4) (fun v108 => hf_ck (hf_inI v108) (hf_bd (hf_gf 12 43 x0) (fun v111 => hf_ck (hf_inI v111) (hf_bd (hf_ret (x2 + (v108 * v111))) (fun x2_117 => f_X12_judge_118 rec_34 x0 x1 x2_117 x4)))))))
def f_X12_judge_95 (rec_34 : Int × Int → hf_M Int) (x0 x1 x4 s0 : Int) : hf_M Int :=
  f_X12_judge_96 rec_34 x0 x1 s0 x4
def f_X12_judge_73 (rec_34 : Int × Int → hf_M Int) (x0 x1 x2 x4 : Int) : hf_M Int :=
  hf_cb x1 1 (¬ x1 = 1) (f_X12_judge_96 rec_34 x0 x1 x2 x4) (hf_bd (hf_gf 12 45 x0) (fun v79 => hf_cl v79 x2 (v79 ≤ x2) (f_X12_judge_95 rec_34 x0 x1 x4 x2) (hf_bd (hf_gf 12 45 x0) (fun v88 => f_X12_judge_95 rec_34 x0 x1 x4 v88))))
def f_X12_judge_72 (rec_34 : Int × Int → hf_M Int) (x0 x1 x4 s0 : Int) : hf_M Int :=
  f_X12_judge_73 rec_34 x0 x1 s0 x4
def B_X12_judge_34 (x0 x1 : Int) (rec_34 : Int × Int → hf_M Int) (x2 x4 : Int) : hf_M Int :=
  hf_bd (hf_gf 12 3 x0) (fun v37 => hf_cb x4 v37 (v37 < x4) (hf_ret x2) (hf_bd (hf_ob 12 x0 (f_X12_runs x0 x4)) (fun _ => hf_cz x1 (¬ x1 = 0) (f_X12_judge_73 rec_34 x0 x1 x2 x4) (hf_bd (hf_gf 12 43 x0) (fun v54 => hf_ck (hf_inI v54) (hf_cl v54 x2 (v54 ≤ x2) (f_X12_judge_72 rec_34 x0 x1 x4 x2) (hf_bd (hf_gf 12 43 x0) (fun v64 => hf_ck (hf_inI v64) (f_X12_judge_72 rec_34 x0 x1 x4 v64)))))))))
def f_X12_judge_34 (x0 x1 x2 x4 : Int) : hf_M Int := hf_fx (fun rec s => B_X12_judge_34 x0 x1 rec s.1 s.2) hf_N (x2, x4)
def f_X12_judge (x0 x1 : Int) : hf_M Int :=
  hf_bd (hf_pf 12 2 x0 0) (fun _ => hf_bd (hf_gf 12 18 x0) (fun v6 => hf_cz v6 (¬ v6 = 0) (hf_bd (f_X12_isIn x1 0 5) (fun v19 => hf_cz v19 (¬ v19 = 0) (f_X12_judge_34 x0 x1 0 0) (hf_ret (-1)))) (hf_ret (-2))))
theorem cal_X12_judge : hf_cv M_X12_judge 12 1 := ⟨⟨ii_X12, kc_X12_judge, by decide, by decide, by decide +kernel⟩, ki_X12_judge, kv_X12_judge, _, rfl, rfl⟩
set_option maxRecDepth 20000 in
theorem j_X12_judge_195 (x0 x1 x2 x4 : Int) (rec_34 : Int × Int → hf_M Int) (hrec_34 : ∀ s : Int × Int, hf_J M_X12_judge 34 [(0, 2, x0), (1, 0, x1), (2, 1, s.1), (4, 0, s.2)] [] (rec_34 s)) : hf_J M_X12_judge 195 [(0, 2, x0), (1, 0, x1), (2, 1, x2), (4, 0, x4)] [] (f_X12_judge_195 rec_34 x0 x1 x2 x4) := by
  refine hf_iincB (pc := 195) (fun y => [(4, 0, y), (0, 2, x0), (1, 0, x1), (2, 1, x2)]) (q := 3) rfl (by decide) (fun _ => rfl) dX12_judge_195 (fun x4_195 => ?_)
  refine hf_goto (pc := 198) 34 dX12_judge_198 rfl ?_
  exact hf_sub [1, 2, 3, 0] rfl (hrec_34 (x2, x4_195))
set_option maxRecDepth 20000 in
theorem j_X12_judge_193 (x0 x1 x4 s0 s1 : Int) (rec_34 : Int × Int → hf_M Int) (hrec_34 : ∀ s : Int × Int, hf_J M_X12_judge 34 [(0, 2, x0), (1, 0, x1), (2, 1, s.1), (4, 0, s.2)] [] (rec_34 s)) : hf_J M_X12_judge 193 [(0, 2, x0), (1, 0, x1), (4, 0, x4)] [(1, s1), (1, s0)] (f_X12_judge_193 rec_34 x0 x1 x4 s0 s1) := by
  refine hf_ladd (pc := 193) dX12_judge_193 ?_
  refine hf_lst_nB (pc := 194) (fun y => [(2, 1, y), (0, 2, x0), (1, 0, x1), (4, 0, x4)]) rfl (by decide) (fun _ => rfl) dX12_judge_194 (fun x2_194 => ?_)
  exact hf_sub [1, 2, 0, 3] rfl (j_X12_judge_195 x0 x1 x2_194 x4 rec_34 hrec_34)
set_option maxRecDepth 20000 in
theorem j_X12_judge_167 (x0 x1 x2 x4 : Int) (rec_34 : Int × Int → hf_M Int) (hrec_34 : ∀ s : Int × Int, hf_J M_X12_judge 34 [(0, 2, x0), (1, 0, x1), (2, 1, s.1), (4, 0, s.2)] [] (rec_34 s)) : hf_J M_X12_judge 167 [(0, 2, x0), (1, 0, x1), (2, 1, x2), (4, 0, x4)] [] (f_X12_judge_167 rec_34 x0 x1 x2 x4) := by
  refine hf_ild_n (pc := 167) 1 rfl rfl dX12_judge_167 ?_
  refine hf_iconst (pc := 168) dX12_judge_168 ?_
  refine hf_icmp_ne (pc := 169) 195 dX12_judge_169 rfl ?_ ?_
  · exact hf_sub [0, 1, 2, 3] rfl (j_X12_judge_195 x0 x1 x2 x4 rec_34 hrec_34)
  · refine hf_lld_n (pc := 172) 2 rfl rfl dX12_judge_172 ?_
    refine hf_ald_n (pc := 173) 0 rfl rfl dX12_judge_173 ?_
    refine hf_getf (pc := 174) fl_X12_317 dX12_judge_174 (fun v174 => ?_)
    refine hf_iconst (pc := 177) dX12_judge_177 ?_
    refine hf_icmp_ne (pc := 178) 192 dX12_judge_178 rfl ?_ ?_
    · refine hf_lconst (pc := 192) (v := 0) dX12_judge_192 (by decide) ?_
      exact hf_sub [0, 1, 3] rfl (j_X12_judge_193 x0 x1 x4 x2 0 rec_34 hrec_34)
    · refine hf_ald_n (pc := 181) 0 rfl rfl dX12_judge_181 ?_
      refine hf_getf (pc := 182) fl_X12_26 dX12_judge_182 (fun v182 => ?_)
      refine hf_ild (pc := 185) 3 rfl dX12_judge_185 ?_
      refine hf_iald (pc := 187) dX12_judge_187 (fun v187 => ?_)
      refine hf_i2l (pc := 188) dX12_judge_188 ?_
      refine hf_goto (pc := 189) 193 dX12_judge_189 rfl ?_
      exact hf_sub [0, 1, 3] rfl (j_X12_judge_193 x0 x1 x4 x2 v187 rec_34 hrec_34)
set_option maxRecDepth 20000 in
theorem j_X12_judge_165 (x0 x1 x4 s0 s1 : Int) (rec_34 : Int × Int → hf_M Int) (hrec_34 : ∀ s : Int × Int, hf_J M_X12_judge 34 [(0, 2, x0), (1, 0, x1), (2, 1, s.1), (4, 0, s.2)] [] (rec_34 s)) : hf_J M_X12_judge 165 [(0, 2, x0), (1, 0, x1), (4, 0, x4)] [(1, s1), (1, s0)] (f_X12_judge_165 rec_34 x0 x1 x4 s0 s1) := by
  refine hf_ladd (pc := 165) dX12_judge_165 ?_
  refine hf_lst_nB (pc := 166) (fun y => [(2, 1, y), (0, 2, x0), (1, 0, x1), (4, 0, x4)]) rfl (by decide) (fun _ => rfl) dX12_judge_166 (fun x2_166 => ?_)
  exact hf_sub [1, 2, 0, 3] rfl (j_X12_judge_167 x0 x1 x2_166 x4 rec_34 hrec_34)
set_option maxRecDepth 20000 in
theorem j_X12_judge_139 (x0 x1 x2 x4 : Int) (rec_34 : Int × Int → hf_M Int) (hrec_34 : ∀ s : Int × Int, hf_J M_X12_judge 34 [(0, 2, x0), (1, 0, x1), (2, 1, s.1), (4, 0, s.2)] [] (rec_34 s)) : hf_J M_X12_judge 139 [(0, 2, x0), (1, 0, x1), (2, 1, x2), (4, 0, x4)] [] (f_X12_judge_139 rec_34 x0 x1 x2 x4) := by
  refine hf_ild_n (pc := 139) 1 rfl rfl dX12_judge_139 ?_
  refine hf_iconst (pc := 140) dX12_judge_140 ?_
  refine hf_icmp_ne (pc := 141) 167 dX12_judge_141 rfl ?_ ?_
  · exact hf_sub [0, 1, 2, 3] rfl (j_X12_judge_167 x0 x1 x2 x4 rec_34 hrec_34)
  · refine hf_lld_n (pc := 144) 2 rfl rfl dX12_judge_144 ?_
    refine hf_ald_n (pc := 145) 0 rfl rfl dX12_judge_145 ?_
    refine hf_getf (pc := 146) fl_X12_317 dX12_judge_146 (fun v146 => ?_)
    refine hf_iconst (pc := 149) dX12_judge_149 ?_
    refine hf_icmp_ne (pc := 150) 164 dX12_judge_150 rfl ?_ ?_
    · refine hf_lconst (pc := 164) (v := 0) dX12_judge_164 (by decide) ?_
      exact hf_sub [0, 1, 3] rfl (j_X12_judge_165 x0 x1 x4 x2 0 rec_34 hrec_34)
    · refine hf_ald_n (pc := 153) 0 rfl rfl dX12_judge_153 ?_
      refine hf_getf (pc := 154) fl_X12_26 dX12_judge_154 (fun v154 => ?_)
      refine hf_ild (pc := 157) 3 rfl dX12_judge_157 ?_
      refine hf_iald (pc := 159) dX12_judge_159 (fun v159 => ?_)
      refine hf_i2l (pc := 160) dX12_judge_160 ?_
      refine hf_goto (pc := 161) 165 dX12_judge_161 rfl ?_
      exact hf_sub [0, 1, 3] rfl (j_X12_judge_165 x0 x1 x4 x2 v159 rec_34 hrec_34)
set_option maxRecDepth 20000 in
theorem j_X12_judge_118 (x0 x1 x2 x4 : Int) (rec_34 : Int × Int → hf_M Int) (hrec_34 : ∀ s : Int × Int, hf_J M_X12_judge 34 [(0, 2, x0), (1, 0, x1), (2, 1, s.1), (4, 0, s.2)] [] (rec_34 s)) : hf_J M_X12_judge 118 [(0, 2, x0), (1, 0, x1), (2, 1, x2), (4, 0, x4)] [] (f_X12_judge_118 rec_34 x0 x1 x2 x4) := by
  refine hf_ild_n (pc := 118) 1 rfl rfl dX12_judge_118 ?_
  refine hf_iconst (pc := 119) dX12_judge_119 ?_
  refine hf_icmp_ne (pc := 120) 139 dX12_judge_120 rfl ?_ ?_
  · exact hf_sub [0, 1, 2, 3] rfl (j_X12_judge_139 x0 x1 x2 x4 rec_34 hrec_34)
  · refine hf_lld_n (pc := 123) 2 rfl rfl dX12_judge_123 ?_
    refine hf_ald_n (pc := 124) 0 rfl rfl dX12_judge_124 ?_
    refine hf_getf (pc := 125) fl_X12_26 dX12_judge_125 (fun v125 => ?_)
    refine hf_ild (pc := 128) 3 rfl dX12_judge_128 ?_
    refine hf_iald (pc := 130) dX12_judge_130 (fun v130 => ?_)
    refine hf_i2l (pc := 131) dX12_judge_131 ?_
    refine hf_ald_n (pc := 132) 0 rfl rfl dX12_judge_132 ?_
    refine hf_getf (pc := 133) fl_X12_308 dX12_judge_133 (fun v133 => ?_)
    refine hf_lmul (pc := 136) dX12_judge_136 ?_
    refine hf_ladd (pc := 137) dX12_judge_137 ?_
    refine hf_lst_nB (pc := 138) (fun y => [(2, 1, y), (0, 2, x0), (1, 0, x1), (4, 0, x4)]) rfl (by decide) (fun _ => rfl) dX12_judge_138 (fun x2_138 => ?_)
    exact hf_sub [1, 2, 0, 3] rfl (j_X12_judge_139 x0 x1 x2_138 x4 rec_34 hrec_34)
set_option maxRecDepth 20000 in
theorem j_X12_judge_96 (x0 x1 x2 x4 : Int) (rec_34 : Int × Int → hf_M Int) (hrec_34 : ∀ s : Int × Int, hf_J M_X12_judge 34 [(0, 2, x0), (1, 0, x1), (2, 1, s.1), (4, 0, s.2)] [] (rec_34 s)) : hf_J M_X12_judge 96 [(0, 2, x0), (1, 0, x1), (2, 1, x2), (4, 0, x4)] [] (f_X12_judge_96 rec_34 x0 x1 x2 x4) := by
  refine hf_ild_n (pc := 96) 1 rfl rfl dX12_judge_96 ?_
  refine hf_iconst (pc := 97) dX12_judge_97 ?_
  refine hf_icmp_ne (pc := 98) 118 dX12_judge_98 rfl ?_ ?_
  · exact hf_sub [0, 1, 2, 3] rfl (j_X12_judge_118 x0 x1 x2 x4 rec_34 hrec_34)
  · refine hf_lld_n (pc := 101) 2 rfl rfl dX12_judge_101 ?_
    refine hf_ald_n (pc := 102) 0 rfl rfl dX12_judge_102 ?_
    refine hf_getf (pc := 103) fl_X12_26 dX12_judge_103 (fun v103 => ?_)
    refine hf_ild (pc := 106) 3 rfl dX12_judge_106 ?_
    refine hf_iald (pc := 108) dX12_judge_108 (fun v108 => ?_)
    refine hf_i2l (pc := 109) dX12_judge_109 ?_
    refine hf_ald_n (pc := 110) 0 rfl rfl dX12_judge_110 ?_
    refine hf_getf (pc := 111) fl_X12_302 dX12_judge_111 (fun v111 => ?_)
    refine hf_i2l (pc := 114) dX12_judge_114 ?_
    refine hf_lmul (pc := 115) dX12_judge_115 ?_
    refine hf_ladd (pc := 116) dX12_judge_116 ?_
    refine hf_lst_nB (pc := 117) (fun y => [(2, 1, y), (0, 2, x0), (1, 0, x1), (4, 0, x4)]) rfl (by decide) (fun _ => rfl) dX12_judge_117 (fun x2_117 => ?_)
    exact hf_sub [1, 2, 0, 3] rfl (j_X12_judge_118 x0 x1 x2_117 x4 rec_34 hrec_34)
set_option maxRecDepth 20000 in
theorem j_X12_judge_95 (x0 x1 x4 s0 : Int) (rec_34 : Int × Int → hf_M Int) (hrec_34 : ∀ s : Int × Int, hf_J M_X12_judge 34 [(0, 2, x0), (1, 0, x1), (2, 1, s.1), (4, 0, s.2)] [] (rec_34 s)) : hf_J M_X12_judge 95 [(0, 2, x0), (1, 0, x1), (4, 0, x4)] [(1, s0)] (f_X12_judge_95 rec_34 x0 x1 x4 s0) := by
  refine hf_lst_n (pc := 95) (lv' := [(2, 1, s0), (0, 2, x0), (1, 0, x1), (4, 0, x4)]) rfl (by decide) rfl dX12_judge_95 ?_
  exact hf_sub [1, 2, 0, 3] rfl (j_X12_judge_96 x0 x1 s0 x4 rec_34 hrec_34)
set_option maxRecDepth 20000 in
theorem j_X12_judge_73 (x0 x1 x2 x4 : Int) (rec_34 : Int × Int → hf_M Int) (hrec_34 : ∀ s : Int × Int, hf_J M_X12_judge 34 [(0, 2, x0), (1, 0, x1), (2, 1, s.1), (4, 0, s.2)] [] (rec_34 s)) : hf_J M_X12_judge 73 [(0, 2, x0), (1, 0, x1), (2, 1, x2), (4, 0, x4)] [] (f_X12_judge_73 rec_34 x0 x1 x2 x4) := by
  refine hf_ild_n (pc := 73) 1 rfl rfl dX12_judge_73 ?_
  refine hf_iconst (pc := 74) dX12_judge_74 ?_
  refine hf_icmp_ne (pc := 75) 96 dX12_judge_75 rfl ?_ ?_
  · exact hf_sub [0, 1, 2, 3] rfl (j_X12_judge_96 x0 x1 x2 x4 rec_34 hrec_34)
  · refine hf_ald_n (pc := 78) 0 rfl rfl dX12_judge_78 ?_
    refine hf_getf (pc := 79) fl_X12_308 dX12_judge_79 (fun v79 => ?_)
    refine hf_lld_n (pc := 82) 2 rfl rfl dX12_judge_82 ?_
    refine hf_lcm_le (pc := 83) 94 dX12_judge_83 dX12_judge_84 rfl ?_ ?_
    · refine hf_lld_n (pc := 94) 2 rfl rfl dX12_judge_94 ?_
      exact hf_sub [0, 1, 3] rfl (j_X12_judge_95 x0 x1 x4 x2 rec_34 hrec_34)
    · refine hf_ald_n (pc := 87) 0 rfl rfl dX12_judge_87 ?_
      refine hf_getf (pc := 88) fl_X12_308 dX12_judge_88 (fun v88 => ?_)
      refine hf_goto (pc := 91) 95 dX12_judge_91 rfl ?_
      exact hf_sub [0, 1, 3] rfl (j_X12_judge_95 x0 x1 x4 v88 rec_34 hrec_34)
set_option maxRecDepth 20000 in
theorem j_X12_judge_72 (x0 x1 x4 s0 : Int) (rec_34 : Int × Int → hf_M Int) (hrec_34 : ∀ s : Int × Int, hf_J M_X12_judge 34 [(0, 2, x0), (1, 0, x1), (2, 1, s.1), (4, 0, s.2)] [] (rec_34 s)) : hf_J M_X12_judge 72 [(0, 2, x0), (1, 0, x1), (4, 0, x4)] [(1, s0)] (f_X12_judge_72 rec_34 x0 x1 x4 s0) := by
  refine hf_lst_n (pc := 72) (lv' := [(2, 1, s0), (0, 2, x0), (1, 0, x1), (4, 0, x4)]) rfl (by decide) rfl dX12_judge_72 ?_
  exact hf_sub [1, 2, 0, 3] rfl (j_X12_judge_73 x0 x1 s0 x4 rec_34 hrec_34)
set_option maxRecDepth 20000 in
theorem jb_X12_judge_34 (x0 x1 : Int) (rec_34 : Int × Int → hf_M Int) (hrec_34 : ∀ s : Int × Int, hf_J M_X12_judge 34 [(0, 2, x0), (1, 0, x1), (2, 1, s.1), (4, 0, s.2)] [] (rec_34 s)) (x2 x4 : Int) : hf_J M_X12_judge 34 [(0, 2, x0), (1, 0, x1), (2, 1, x2), (4, 0, x4)] [] (B_X12_judge_34 x0 x1 rec_34 x2 x4) := by
  refine hf_ild (pc := 34) 3 rfl dX12_judge_34 ?_
  refine hf_ald_n (pc := 36) 0 rfl rfl dX12_judge_36 ?_
  refine hf_getf (pc := 37) fl_X12_13 dX12_judge_37 (fun v37 => ?_)
  refine hf_icmp_gt (pc := 40) 201 dX12_judge_40 rfl ?_ ?_
  · refine hf_lld_n (pc := 201) 2 rfl rfl dX12_judge_201 ?_
    exact hf_Jret (pc := 202) dX12_judge_202 (fun _ => rfl)
  · refine hf_ald_n (pc := 43) 0 rfl rfl dX12_judge_43 ?_
    refine hf_ild (pc := 44) 3 rfl dX12_judge_44 ?_
    refine hf_cV (pc := 46) (N := M_X12_runs) (ts := [0]) (vs := [x4]) (st := []) (fun r => []) (c_X12_runs x0 x4) cal_X12_runs ml_X12_332 ⟨hf_le rfl, hf_le rfl⟩ (hf_le rfl) ⟨rfl, rfl⟩ rfl dX12_judge_46 (fun _ => rfl) (fun _ => ?_)
    refine hf_ild_n (pc := 49) 1 rfl rfl dX12_judge_49 ?_
    refine hf_if_ne (pc := 50) 73 dX12_judge_50 rfl ?_ ?_
    · exact hf_sub [0, 1, 2, 3] rfl (j_X12_judge_73 x0 x1 x2 x4 rec_34 hrec_34)
    · refine hf_ald_n (pc := 53) 0 rfl rfl dX12_judge_53 ?_
      refine hf_getf (pc := 54) fl_X12_302 dX12_judge_54 (fun v54 => ?_)
      refine hf_i2l (pc := 57) dX12_judge_57 ?_
      refine hf_lld_n (pc := 58) 2 rfl rfl dX12_judge_58 ?_
      refine hf_lcm_le (pc := 59) 71 dX12_judge_59 dX12_judge_60 rfl ?_ ?_
      · refine hf_lld_n (pc := 71) 2 rfl rfl dX12_judge_71 ?_
        exact hf_sub [0, 1, 3] rfl (j_X12_judge_72 x0 x1 x4 x2 rec_34 hrec_34)
      · refine hf_ald_n (pc := 63) 0 rfl rfl dX12_judge_63 ?_
        refine hf_getf (pc := 64) fl_X12_302 dX12_judge_64 (fun v64 => ?_)
        refine hf_i2l (pc := 67) dX12_judge_67 ?_
        refine hf_goto (pc := 68) 72 dX12_judge_68 rfl ?_
        exact hf_sub [0, 1, 3] rfl (j_X12_judge_72 x0 x1 x4 v64 rec_34 hrec_34)
set_option maxRecDepth 20000 in
theorem j_X12_judge_34 (x0 x1 x2 x4 : Int) : hf_J M_X12_judge 34 [(0, 2, x0), (1, 0, x1), (2, 1, x2), (4, 0, x4)] [] (f_X12_judge_34 x0 x1 x2 x4) :=
  hf_Jfx (L := fun s => [(0, 2, x0), (1, 0, x1), (2, 1, s.1), (4, 0, s.2)]) (fun rec hrec s => jb_X12_judge_34 x0 x1 rec hrec s.1 s.2) hf_N (x2, x4)
set_option maxRecDepth 20000 in
theorem c_X12_judge (x0 x1 : Int) : hf_Met M_X12_judge [2, 0] [x0, x1] (f_X12_judge x0 x1) := by
  refine hf_met rfl (by decide) (by decide) (by decide) ?_
  show hf_J M_X12_judge 0 [(0, 2, x0), (1, 0, x1)] [] _
  refine hf_ald_n (pc := 0) 0 rfl rfl dX12_judge_0 ?_
  refine hf_iconst (pc := 1) dX12_judge_1 ?_
  refine hf_putf (pc := 2) fl_X12_127 trivial dX12_judge_2 ?_
  refine hf_ald_n (pc := 5) 0 rfl rfl dX12_judge_5 ?_
  refine hf_getf (pc := 6) fl_X12_266 dX12_judge_6 (fun v6 => ?_)
  refine hf_if_ne (pc := 9) 16 dX12_judge_9 rfl ?_ ?_
  · refine hf_ild_n (pc := 16) 1 rfl rfl dX12_judge_16 ?_
    refine hf_iconst (pc := 17) dX12_judge_17 ?_
    refine hf_iconst (pc := 18) dX12_judge_18 ?_
    refine hf_cS (pc := 19) (N := M_X12_isIn) (ts := [0, 0, 0]) (vs := [x1, 0, 5]) (st := []) (fun r => [(0, r)]) (c_X12_isIn x1 0 5) cal_X12_isIn ml_X12_133 ⟨hf_le rfl, hf_le rfl⟩ (hf_le rfl) ⟨rfl, rfl⟩ rfl dX12_judge_19 (fun _ => rfl) (fun v19 => ?_)
    refine hf_if_ne (pc := 22) 29 dX12_judge_22 rfl ?_ ?_
    · refine hf_lconst (pc := 29) (v := 0) dX12_judge_29 (by decide) ?_
      refine hf_lst_n (pc := 30) (lv' := [(2, 1, 0), (0, 2, x0), (1, 0, x1)]) rfl (by decide) rfl dX12_judge_30 ?_
      refine hf_iconst (pc := 31) dX12_judge_31 ?_
      refine hf_ist (pc := 32) (lv' := [(4, 0, 0), (2, 1, 0), (0, 2, x0), (1, 0, x1)]) (by decide) rfl dX12_judge_32 ?_
      exact hf_sub [2, 3, 1, 0] rfl (j_X12_judge_34 x0 x1 0 0)
    · refine hf_ldc2 (pc := 25) (n := (-1)) co_X12_312 (by decide) dX12_judge_25 ?_
      exact hf_Jret (pc := 28) dX12_judge_28 (fun _ => rfl)
  · refine hf_ldc2 (pc := 12) (n := (-2)) co_X12_330 (by decide) dX12_judge_12 ?_
    exact hf_Jret (pc := 15) dX12_judge_15 (fun _ => rfl)
/-! HighFallModel.allPieces()I -/
def M_X12_allPieces : hf_D := (yX12_allPieces, cX12_allPieces, 1, some .int, 0, 0)
def f_X12_allPieces (x0 : Int) : hf_M Int :=
  hf_bd (hf_gf 12 5 x0) (fun v1 => hf_bd (hf_al 20 v1 0) (fun v5 => hf_bd (hf_gf 12 5 x0) (fun v8 => hf_bd (hf_al 20 v8 1) (fun v12 => hf_bd (hf_gf 12 5 x0) (fun v18 => hf_bd (hf_al 20 v18 2) (fun v22 => hf_ret ((v5 + (5 * v12)) + (25 * v22))))))))
theorem cal_X12_allPieces : hf_cv M_X12_allPieces 12 0 := ⟨⟨ii_X12, kc_X12_allPieces, by decide, by decide, by decide +kernel⟩, ki_X12_allPieces, kv_X12_allPieces, _, rfl, rfl⟩
set_option maxRecDepth 20000 in
theorem c_X12_allPieces (x0 : Int) : hf_Met M_X12_allPieces [2] [x0] (f_X12_allPieces x0) := by
  refine hf_met rfl (by decide) (by decide) (by decide) ?_
  show hf_J M_X12_allPieces 0 [(0, 2, x0)] [] _
  refine hf_ald_n (pc := 0) 0 rfl rfl dX12_allPieces_0 ?_
  refine hf_getf (pc := 1) fl_X12_20 dX12_allPieces_1 (fun v1 => ?_)
  refine hf_iconst (pc := 4) dX12_allPieces_4 ?_
  refine hf_iald (pc := 5) dX12_allPieces_5 (fun v5 => ?_)
  refine hf_iconst (pc := 6) dX12_allPieces_6 ?_
  refine hf_ald_n (pc := 7) 0 rfl rfl dX12_allPieces_7 ?_
  refine hf_getf (pc := 8) fl_X12_20 dX12_allPieces_8 (fun v8 => ?_)
  refine hf_iconst (pc := 11) dX12_allPieces_11 ?_
  refine hf_iald (pc := 12) dX12_allPieces_12 (fun v12 => ?_)
  refine hf_imul (pc := 13) dX12_allPieces_13 ?_
  refine hf_iadd (pc := 14) dX12_allPieces_14 ?_
  refine hf_bipush (pc := 15) dX12_allPieces_15 (by decide) ?_
  refine hf_ald_n (pc := 17) 0 rfl rfl dX12_allPieces_17 ?_
  refine hf_getf (pc := 18) fl_X12_20 dX12_allPieces_18 (fun v18 => ?_)
  refine hf_iconst (pc := 21) dX12_allPieces_21 ?_
  refine hf_iald (pc := 22) dX12_allPieces_22 (fun v22 => ?_)
  refine hf_imul (pc := 23) dX12_allPieces_23 ?_
  refine hf_iadd (pc := 24) dX12_allPieces_24 ?_
  exact hf_Jret (pc := 25) dX12_allPieces_25 (fun _ => rfl)
/-! HighFallModel.leftOf(II)I -/
def M_X12_leftOf : hf_D := (yX12_leftOf, cX12_leftOf, 2, some .int, 0, 0)
def f_X12_leftOf (x0 x1 : Int) : hf_M Int :=
  hf_cz x1 (¬ x1 = 0) (hf_cb x1 1 (¬ x1 = 1) (hf_bd (hf_dv x0 25) (fun v26 => hf_ret v26)) (hf_bd (hf_dv x0 5) (fun v17 => hf_bd (hf_rm v17 5) (fun v19 => hf_ret v19)))) (hf_bd (hf_rm x0 5) (fun v6 => hf_ret v6))
theorem cal_X12_leftOf : hf_csx M_X12_leftOf 2 := ⟨⟨ii_X12, kc_X12_leftOf, by decide, by decide, by decide +kernel⟩, ks_X12_leftOf⟩
set_option maxRecDepth 20000 in
theorem c_X12_leftOf (x0 x1 : Int) : hf_Met M_X12_leftOf [0, 0] [x0, x1] (f_X12_leftOf x0 x1) := by
  refine hf_met rfl (by decide) (by decide) (by decide) ?_
  show hf_J M_X12_leftOf 0 [(0, 0, x0), (1, 0, x1)] [] _
  refine hf_ild_n (pc := 0) 1 rfl rfl dX12_leftOf_0 ?_
  refine hf_if_ne (pc := 1) 10 dX12_leftOf_1 rfl ?_ ?_
  · refine hf_ild_n (pc := 10) 1 rfl rfl dX12_leftOf_10 ?_
    refine hf_iconst (pc := 11) dX12_leftOf_11 ?_
    refine hf_icmp_ne (pc := 12) 23 dX12_leftOf_12 rfl ?_ ?_
    · refine hf_ild_n (pc := 23) 0 rfl rfl dX12_leftOf_23 ?_
      refine hf_bipush (pc := 24) dX12_leftOf_24 (by decide) ?_
      refine hf_idiv (pc := 26) dX12_leftOf_26 (fun v26 => ?_)
      exact hf_Jret (pc := 27) dX12_leftOf_27 (fun _ => rfl)
    · refine hf_ild_n (pc := 15) 0 rfl rfl dX12_leftOf_15 ?_
      refine hf_iconst (pc := 16) dX12_leftOf_16 ?_
      refine hf_idiv (pc := 17) dX12_leftOf_17 (fun v17 => ?_)
      refine hf_iconst (pc := 18) dX12_leftOf_18 ?_
      refine hf_irem (pc := 19) dX12_leftOf_19 (fun v19 => ?_)
      refine hf_goto (pc := 20) 27 dX12_leftOf_20 rfl ?_
      exact hf_Jret (pc := 27) dX12_leftOf_27 (fun _ => rfl)
  · refine hf_ild_n (pc := 4) 0 rfl rfl dX12_leftOf_4 ?_
    refine hf_iconst (pc := 5) dX12_leftOf_5 ?_
    refine hf_irem (pc := 6) dX12_leftOf_6 (fun v6 => ?_)
    refine hf_goto (pc := 7) 27 dX12_leftOf_7 rfl ?_
    exact hf_Jret (pc := 27) dX12_leftOf_27 (fun _ => rfl)
/-! HighFallModel.isWithin(II)Z -/
def M_X12_isWithin : hf_D := (yX12_isWithin, cX12_isWithin, 2, some .boolean, 1, 21)
def f_X12_isWithin (x0 x1 : Int) : hf_M Int :=
  hf_bd (f_X12_leftOf x0 0) (fun v2 => hf_bd (f_X12_leftOf x1 0) (fun v7 => hf_cb v2 v7 (v7 < v2) (hf_ret 0) (hf_bd (f_X12_leftOf x0 1) (fun v15 => hf_bd (f_X12_leftOf x1 1) (fun v20 => hf_cb v15 v20 (v20 < v15) (hf_ret 0) (hf_bd (f_X12_leftOf x0 2) (fun v28 => hf_bd (f_X12_leftOf x1 2) (fun v33 => hf_cb v28 v33 (v33 < v28) (hf_ret 0) (hf_ret 1)))))))))
theorem cal_X12_isWithin : hf_csx M_X12_isWithin 2 := ⟨⟨ii_X12, kc_X12_isWithin, by decide, by decide, by decide +kernel⟩, ks_X12_isWithin⟩
set_option maxRecDepth 20000 in
theorem c_X12_isWithin (x0 x1 : Int) : hf_Met M_X12_isWithin [0, 0] [x0, x1] (f_X12_isWithin x0 x1) := by
  refine hf_met rfl (by decide) (by decide) (by decide) ?_
  show hf_J M_X12_isWithin 0 [(0, 0, x0), (1, 0, x1)] [] _
  refine hf_ild_n (pc := 0) 0 rfl rfl dX12_isWithin_0 ?_
  refine hf_iconst (pc := 1) dX12_isWithin_1 ?_
  refine hf_cS (pc := 2) (N := M_X12_leftOf) (ts := [0, 0]) (vs := [x0, 0]) (st := []) (fun r => [(0, r)]) (c_X12_leftOf x0 0) cal_X12_leftOf ml_X12_351 ⟨hf_le rfl, hf_le rfl⟩ (hf_le rfl) ⟨rfl, rfl⟩ rfl dX12_isWithin_2 (fun _ => rfl) (fun v2 => ?_)
  refine hf_ild_n (pc := 5) 1 rfl rfl dX12_isWithin_5 ?_
  refine hf_iconst (pc := 6) dX12_isWithin_6 ?_
  refine hf_cS (pc := 7) (N := M_X12_leftOf) (ts := [0, 0]) (vs := [x1, 0]) (st := [(0, v2)]) (fun r => [(0, r), (0, v2)]) (c_X12_leftOf x1 0) cal_X12_leftOf ml_X12_351 ⟨hf_le rfl, hf_le rfl⟩ (hf_le rfl) ⟨rfl, rfl⟩ rfl dX12_isWithin_7 (fun _ => rfl) (fun v7 => ?_)
  refine hf_icmp_gt (pc := 10) 43 dX12_isWithin_10 rfl ?_ ?_
  · refine hf_iconst (pc := 43) dX12_isWithin_43 ?_
    exact hf_Jret (pc := 44) (r := 0) ⟨dX12_isWithin_44, Or.inl rfl⟩ (fun _ => rfl)
  · refine hf_ild_n (pc := 13) 0 rfl rfl dX12_isWithin_13 ?_
    refine hf_iconst (pc := 14) dX12_isWithin_14 ?_
    refine hf_cS (pc := 15) (N := M_X12_leftOf) (ts := [0, 0]) (vs := [x0, 1]) (st := []) (fun r => [(0, r)]) (c_X12_leftOf x0 1) cal_X12_leftOf ml_X12_351 ⟨hf_le rfl, hf_le rfl⟩ (hf_le rfl) ⟨rfl, rfl⟩ rfl dX12_isWithin_15 (fun _ => rfl) (fun v15 => ?_)
    refine hf_ild_n (pc := 18) 1 rfl rfl dX12_isWithin_18 ?_
    refine hf_iconst (pc := 19) dX12_isWithin_19 ?_
    refine hf_cS (pc := 20) (N := M_X12_leftOf) (ts := [0, 0]) (vs := [x1, 1]) (st := [(0, v15)]) (fun r => [(0, r), (0, v15)]) (c_X12_leftOf x1 1) cal_X12_leftOf ml_X12_351 ⟨hf_le rfl, hf_le rfl⟩ (hf_le rfl) ⟨rfl, rfl⟩ rfl dX12_isWithin_20 (fun _ => rfl) (fun v20 => ?_)
    refine hf_icmp_gt (pc := 23) 43 dX12_isWithin_23 rfl ?_ ?_
    · refine hf_iconst (pc := 43) dX12_isWithin_43 ?_
      exact hf_Jret (pc := 44) (r := 0) ⟨dX12_isWithin_44, Or.inl rfl⟩ (fun _ => rfl)
    · refine hf_ild_n (pc := 26) 0 rfl rfl dX12_isWithin_26 ?_
      refine hf_iconst (pc := 27) dX12_isWithin_27 ?_
      refine hf_cS (pc := 28) (N := M_X12_leftOf) (ts := [0, 0]) (vs := [x0, 2]) (st := []) (fun r => [(0, r)]) (c_X12_leftOf x0 2) cal_X12_leftOf ml_X12_351 ⟨hf_le rfl, hf_le rfl⟩ (hf_le rfl) ⟨rfl, rfl⟩ rfl dX12_isWithin_28 (fun _ => rfl) (fun v28 => ?_)
      refine hf_ild_n (pc := 31) 1 rfl rfl dX12_isWithin_31 ?_
      refine hf_iconst (pc := 32) dX12_isWithin_32 ?_
      refine hf_cS (pc := 33) (N := M_X12_leftOf) (ts := [0, 0]) (vs := [x1, 2]) (st := [(0, v28)]) (fun r => [(0, r), (0, v28)]) (c_X12_leftOf x1 2) cal_X12_leftOf ml_X12_351 ⟨hf_le rfl, hf_le rfl⟩ (hf_le rfl) ⟨rfl, rfl⟩ rfl dX12_isWithin_33 (fun _ => rfl) (fun v33 => ?_)
      refine hf_icmp_gt (pc := 36) 43 dX12_isWithin_36 rfl ?_ ?_
      · refine hf_iconst (pc := 43) dX12_isWithin_43 ?_
        exact hf_Jret (pc := 44) (r := 0) ⟨dX12_isWithin_44, Or.inl rfl⟩ (fun _ => rfl)
      · refine hf_iconst (pc := 39) dX12_isWithin_39 ?_
        refine hf_goto (pc := 40) 44 dX12_isWithin_40 rfl ?_
        exact hf_Jret (pc := 44) (r := 1) ⟨dX12_isWithin_44, Or.inr rfl⟩ (fun _ => rfl)
/-! HighFallModel.bestAt(III)J -/
def M_X12_bestAt : hf_D := (yX12_bestAt, cX12_bestAt, 4, some .long, 0, 0)
def f_X12_bestAt (x0 x1 x2 x3 : Int) : hf_M Int :=
  hf_bd (hf_gf 12 50 x0) (fun v1 => hf_bd (hf_al 21 v1 ((125 * ((41 * x1) + x2)) + x3)) (fun v15 => hf_ret v15))
theorem cal_X12_bestAt : hf_cv M_X12_bestAt 12 3 := ⟨⟨ii_X12, kc_X12_bestAt, by decide, by decide, by decide +kernel⟩, ki_X12_bestAt, kv_X12_bestAt, _, rfl, rfl⟩
set_option maxRecDepth 20000 in
theorem c_X12_bestAt (x0 x1 x2 x3 : Int) : hf_Met M_X12_bestAt [2, 0, 0, 0] [x0, x1, x2, x3] (f_X12_bestAt x0 x1 x2 x3) := by
  refine hf_met rfl (by decide) (by decide) (by decide) ?_
  show hf_J M_X12_bestAt 0 [(0, 2, x0), (1, 0, x1), (2, 0, x2), (3, 0, x3)] [] _
  refine hf_ald_n (pc := 0) 0 rfl rfl dX12_bestAt_0 ?_
  refine hf_getf (pc := 1) fl_X12_85 dX12_bestAt_1 (fun v1 => ?_)
  refine hf_bipush (pc := 4) dX12_bestAt_4 (by decide) ?_
  refine hf_bipush (pc := 6) dX12_bestAt_6 (by decide) ?_
  refine hf_ild_n (pc := 8) 1 rfl rfl dX12_bestAt_8 ?_
  refine hf_imul (pc := 9) dX12_bestAt_9 ?_
  refine hf_ild_n (pc := 10) 2 rfl rfl dX12_bestAt_10 ?_
  refine hf_iadd (pc := 11) dX12_bestAt_11 ?_
  refine hf_imul (pc := 12) dX12_bestAt_12 ?_
  refine hf_ild_n (pc := 13) 3 rfl rfl dX12_bestAt_13 ?_
  refine hf_iadd (pc := 14) dX12_bestAt_14 ?_
  refine hf_lald (pc := 15) dX12_bestAt_15 (fun v15 => ?_)
  exact hf_Jret (pc := 16) dX12_bestAt_16 (fun _ => rfl)
/-! HighFallModel.oneOf(I)I -/
def M_X12_oneOf : hf_D := (yX12_oneOf, cX12_oneOf, 1, some .int, 0, 0)
def f_X12_oneOf (x0 : Int) : hf_M Int :=
  hf_cz x0 (¬ x0 = 0) (hf_cb x0 1 (¬ x0 = 1) (hf_ret 25) (hf_ret 5)) (hf_ret 1)
theorem cal_X12_oneOf : hf_csx M_X12_oneOf 1 := ⟨⟨ii_X12, kc_X12_oneOf, by decide, by decide, by decide +kernel⟩, ks_X12_oneOf⟩
set_option maxRecDepth 20000 in
theorem c_X12_oneOf (x0 : Int) : hf_Met M_X12_oneOf [0] [x0] (f_X12_oneOf x0) := by
  refine hf_met rfl (by decide) (by decide) (by decide) ?_
  show hf_J M_X12_oneOf 0 [(0, 0, x0)] [] _
  refine hf_ild_n (pc := 0) 0 rfl rfl dX12_oneOf_0 ?_
  refine hf_if_ne (pc := 1) 8 dX12_oneOf_1 rfl ?_ ?_
  · refine hf_ild_n (pc := 8) 0 rfl rfl dX12_oneOf_8 ?_
    refine hf_iconst (pc := 9) dX12_oneOf_9 ?_
    refine hf_icmp_ne (pc := 10) 17 dX12_oneOf_10 rfl ?_ ?_
    · refine hf_bipush (pc := 17) dX12_oneOf_17 (by decide) ?_
      exact hf_Jret (pc := 19) dX12_oneOf_19 (fun _ => rfl)
    · refine hf_iconst (pc := 13) dX12_oneOf_13 ?_
      refine hf_goto (pc := 14) 19 dX12_oneOf_14 rfl ?_
      exact hf_Jret (pc := 19) dX12_oneOf_19 (fun _ => rfl)
  · refine hf_iconst (pc := 4) dX12_oneOf_4 ?_
    refine hf_goto (pc := 5) 19 dX12_oneOf_5 rfl ?_
    exact hf_Jret (pc := 19) dX12_oneOf_19 (fun _ => rfl)
/-! HighFallModel.costOf(I)I -/
def M_X12_costOf : hf_D := (yX12_costOf, cX12_costOf, 2, some .int, 0, 0)
def f_X12_costOf (x0 x1 : Int) : hf_M Int :=
  hf_bd (hf_gf 12 8 x0) (fun v1 => hf_bd (hf_gf 12 9 x0) (fun v5 => hf_ret (v1 + (v5 * x1))))
theorem cal_X12_costOf : hf_cv M_X12_costOf 12 1 := ⟨⟨ii_X12, kc_X12_costOf, by decide, by decide, by decide +kernel⟩, ki_X12_costOf, kv_X12_costOf, _, rfl, rfl⟩
set_option maxRecDepth 20000 in
theorem c_X12_costOf (x0 x1 : Int) : hf_Met M_X12_costOf [2, 0] [x0, x1] (f_X12_costOf x0 x1) := by
  refine hf_met rfl (by decide) (by decide) (by decide) ?_
  show hf_J M_X12_costOf 0 [(0, 2, x0), (1, 0, x1)] [] _
  refine hf_ald_n (pc := 0) 0 rfl rfl dX12_costOf_0 ?_
  refine hf_getf (pc := 1) fl_X12_29 dX12_costOf_1 (fun v1 => ?_)
  refine hf_ald_n (pc := 4) 0 rfl rfl dX12_costOf_4 ?_
  refine hf_getf (pc := 5) fl_X12_148 dX12_costOf_5 (fun v5 => ?_)
  refine hf_ild_n (pc := 8) 1 rfl rfl dX12_costOf_8 ?_
  refine hf_imul (pc := 9) dX12_costOf_9 ?_
  refine hf_iadd (pc := 10) dX12_costOf_10 ?_
  exact hf_Jret (pc := 11) dX12_costOf_11 (fun _ => rfl)
/-! HighFallModel.ofFall(IIIIII)J -/
def M_X12_ofFall : hf_D := (yX12_ofFall, cX12_ofFall, 16, some .long, 1, 23)
def f_X12_ofFall_60 : hf_M Int :=
  hf_ret 1000000000000
def f_X12_ofFall_106 (x0 x1 x2 x3 x7 x8 x10 x12 s0 : Int) : hf_M Int :=
  hf_bd (hf_rm x1 2) (fun v110 => hf_cz v110 (¬ v110 = 0) (hf_bd (hf_gf 12 51 x0) (fun v147 => hf_bd (hf_al 20 v147 (x3 + 1)) (fun v153 => hf_bd (hf_gf 12 51 x0) (fun v155 => hf_bd (hf_al 20 v155 x7) (fun v160 => hf_ck (hf_inI (v153 - v160)) (hf_bd (hf_gf 12 51 x0) (fun v171 => hf_bd (hf_al 20 v171 x7) (fun v176 => hf_bd (hf_gf 12 51 x0) (fun v178 => hf_bd (hf_al 20 v178 x2) (fun v182 => hf_ck (hf_inI (v176 - v182)) (hf_ret (((x8 + (x12 * (v153 - v160))) + x10) + (s0 * (v176 - v182)))))))))))))) (hf_ck (hf_inL (x8 + x12) ∧ hf_inL (x10 + s0)) (hf_bd (hf_ret (if (x8 + x12) ≤ (x10 + s0) then (x10 + s0) else (x8 + x12))) (fun w141 => hf_ret w141))))
def f_X12_ofFall_80 (x0 x1 x2 x3 x5 x6 x7 x8 x10 s0 : Int) : hf_M Int :=
  hf_cb x1 2 (2 ≤ x1) (hf_bd (hf_ob 12 x0 (f_X12_costOf x0 x6)) (fun v94 => hf_bd (hf_gf 12 6 x0) (fun v98 => hf_bd (hf_al 20 v98 x5) (fun v103 => hf_ck (hf_inI (v94 + v103)) (f_X12_ofFall_106 x0 x1 x2 x3 x7 x8 x10 s0 (v94 + v103)))))) (f_X12_ofFall_106 x0 x1 x2 x3 x7 x8 x10 s0 1)
def f_X12_ofFall (x0 x1 x2 x3 x4 x5 x6 : Int) : hf_M Int :=
  hf_bd (hf_gf 12 4 x0) (fun v3 => hf_bd (hf_al 20 v3 x5) (fun v8 => hf_bd (hf_ret (x6 - v8)) (fun x7_10 => hf_bd (hf_ob 12 x0 (f_X12_bestAt x0 x7_10 x3 x4)) (fun v18 => hf_bd (f_X12_oneOf x5) (fun v33 => hf_bd (hf_ob 12 x0 (f_X12_bestAt x0 x2 (x7_10 - 1) (x4 - v33))) (fun v37 => hf_cl v18 1000000000000 (1000000000000 ≤ v18) (f_X12_ofFall_60) (hf_cl v37 1000000000000 (v37 < 1000000000000) (hf_cb x1 2 (2 ≤ x1) (hf_bd (hf_ob 12 x0 (f_X12_costOf x0 x6)) (fun v76 => hf_ck (hf_inI v76) (f_X12_ofFall_80 x0 x1 x2 x3 x5 x6 x7_10 v18 v37 v76))) (f_X12_ofFall_80 x0 x1 x2 x3 x5 x6 x7_10 v18 v37 1)) (f_X12_ofFall_60))))))))
theorem cal_X12_ofFall : hf_cv M_X12_ofFall 12 6 := ⟨⟨ii_X12, kc_X12_ofFall, by decide, by decide, by decide +kernel⟩, ki_X12_ofFall, kv_X12_ofFall, _, rfl, rfl⟩
set_option maxRecDepth 20000 in
theorem j_X12_ofFall_60 : hf_J M_X12_ofFall 60 [] [] (f_X12_ofFall_60) := by
  refine hf_ldc2 (pc := 60) (n := 1000000000000) co_X12_278 (by decide) dX12_ofFall_60 ?_
  exact hf_Jret (pc := 63) dX12_ofFall_63 (fun _ => rfl)
set_option maxRecDepth 20000 in
theorem j_X12_ofFall_106 (x0 x1 x2 x3 x7 x8 x10 x12 s0 : Int) : hf_J M_X12_ofFall 106 [(0, 2, x0), (1, 0, x1), (2, 0, x2), (3, 0, x3), (7, 0, x7), (8, 1, x8), (10, 1, x10), (12, 1, x12)] [(1, s0)] (f_X12_ofFall_106 x0 x1 x2 x3 x7 x8 x10 x12 s0) := by
  refine hf_lst (pc := 106) (lv' := [(14, 1, s0), (0, 2, x0), (1, 0, x1), (2, 0, x2), (3, 0, x3), (7, 0, x7), (8, 1, x8), (10, 1, x10), (12, 1, x12)]) (by decide) rfl dX12_ofFall_106 ?_
  refine hf_ild_n (pc := 108) 2 rfl rfl dX12_ofFall_108 ?_
  refine hf_iconst (pc := 109) dX12_ofFall_109 ?_
  refine hf_irem (pc := 110) dX12_ofFall_110 (fun v110 => ?_)
  refine hf_if_ne (pc := 111) 142 dX12_ofFall_111 rfl ?_ ?_
  · refine hf_lld (pc := 142) 6 rfl dX12_ofFall_142 ?_
    refine hf_lld (pc := 144) 8 rfl dX12_ofFall_144 ?_
    refine hf_ald_n (pc := 146) 1 rfl rfl dX12_ofFall_146 ?_
    refine hf_getf (pc := 147) fl_X12_88 dX12_ofFall_147 (fun v147 => ?_)
    refine hf_ild_n (pc := 150) 4 rfl rfl dX12_ofFall_150 ?_
    refine hf_iconst (pc := 151) dX12_ofFall_151 ?_
    refine hf_iadd (pc := 152) dX12_ofFall_152 ?_
    refine hf_iald (pc := 153) dX12_ofFall_153 (fun v153 => ?_)
    refine hf_ald_n (pc := 154) 1 rfl rfl dX12_ofFall_154 ?_
    refine hf_getf (pc := 155) fl_X12_88 dX12_ofFall_155 (fun v155 => ?_)
    refine hf_ild (pc := 158) 5 rfl dX12_ofFall_158 ?_
    refine hf_iald (pc := 160) dX12_ofFall_160 (fun v160 => ?_)
    refine hf_isub (pc := 161) dX12_ofFall_161 ?_
    refine hf_i2l (pc := 162) dX12_ofFall_162 ?_
    refine hf_lmul (pc := 163) dX12_ofFall_163 ?_
    refine hf_ladd (pc := 164) dX12_ofFall_164 ?_
    refine hf_lld (pc := 165) 7 rfl dX12_ofFall_165 ?_
    refine hf_ladd (pc := 167) dX12_ofFall_167 ?_
    refine hf_lld (pc := 168) 0 rfl dX12_ofFall_168 ?_
    refine hf_ald_n (pc := 170) 1 rfl rfl dX12_ofFall_170 ?_
    refine hf_getf (pc := 171) fl_X12_88 dX12_ofFall_171 (fun v171 => ?_)
    refine hf_ild (pc := 174) 5 rfl dX12_ofFall_174 ?_
    refine hf_iald (pc := 176) dX12_ofFall_176 (fun v176 => ?_)
    refine hf_ald_n (pc := 177) 1 rfl rfl dX12_ofFall_177 ?_
    refine hf_getf (pc := 178) fl_X12_88 dX12_ofFall_178 (fun v178 => ?_)
    refine hf_ild_n (pc := 181) 3 rfl rfl dX12_ofFall_181 ?_
    refine hf_iald (pc := 182) dX12_ofFall_182 (fun v182 => ?_)
    refine hf_isub (pc := 183) dX12_ofFall_183 ?_
    refine hf_i2l (pc := 184) dX12_ofFall_184 ?_
    refine hf_lmul (pc := 185) dX12_ofFall_185 ?_
    refine hf_ladd (pc := 186) dX12_ofFall_186 ?_
    exact hf_Jret (pc := 187) dX12_ofFall_187 (fun _ => rfl)
  · refine hf_lld (pc := 114) 6 rfl dX12_ofFall_114 ?_
    refine hf_lld (pc := 116) 8 rfl dX12_ofFall_116 ?_
    refine hf_ladd (pc := 118) dX12_ofFall_118 ?_
    refine hf_lld (pc := 119) 7 rfl dX12_ofFall_119 ?_
    refine hf_lld (pc := 121) 0 rfl dX12_ofFall_121 ?_
    refine hf_ladd (pc := 123) dX12_ofFall_123 ?_
    refine hf_Jdil (pc := 124) (pcM := 141) (t := 1) (stM := []) (fun w141 => ?_) (fun a1 a2 => ?_)
    · exact hf_Jret (pc := 141) dX12_ofFall_141 (fun _ => rfl)
    · refine hf_lcm_le (pc := 124) 136 dX12_ofFall_124 dX12_ofFall_125 rfl ?_ ?_
      · refine hf_lld (pc := 136) 7 rfl dX12_ofFall_136 ?_
        refine hf_lld (pc := 138) 0 rfl dX12_ofFall_138 ?_
        refine hf_ladd (pc := 140) dX12_ofFall_140 ?_
        exact a1
      · refine hf_lld (pc := 128) 6 rfl dX12_ofFall_128 ?_
        refine hf_lld (pc := 130) 8 rfl dX12_ofFall_130 ?_
        refine hf_ladd (pc := 132) dX12_ofFall_132 ?_
        refine hf_goto (pc := 133) 141 dX12_ofFall_133 rfl ?_
        exact a2
set_option maxRecDepth 20000 in
theorem j_X12_ofFall_80 (x0 x1 x2 x3 x5 x6 x7 x8 x10 s0 : Int) : hf_J M_X12_ofFall 80 [(0, 2, x0), (1, 0, x1), (2, 0, x2), (3, 0, x3), (5, 0, x5), (6, 0, x6), (7, 0, x7), (8, 1, x8), (10, 1, x10)] [(1, s0)] (f_X12_ofFall_80 x0 x1 x2 x3 x5 x6 x7 x8 x10 s0) := by
  refine hf_lst (pc := 80) (lv' := [(12, 1, s0), (0, 2, x0), (1, 0, x1), (2, 0, x2), (3, 0, x3), (5, 0, x5), (6, 0, x6), (7, 0, x7), (8, 1, x8), (10, 1, x10)]) (by decide) rfl dX12_ofFall_80 ?_
  refine hf_ild_n (pc := 82) 2 rfl rfl dX12_ofFall_82 ?_
  refine hf_iconst (pc := 83) dX12_ofFall_83 ?_
  refine hf_icmp_ge (pc := 84) 91 dX12_ofFall_84 rfl ?_ ?_
  · refine hf_ald_n (pc := 91) 1 rfl rfl dX12_ofFall_91 ?_
    refine hf_ild (pc := 92) 6 rfl dX12_ofFall_92 ?_
    refine hf_cV (pc := 94) (N := M_X12_costOf) (ts := [0]) (vs := [x6]) (st := []) (fun r => [(0, r)]) (c_X12_costOf x0 x6) cal_X12_costOf ml_X12_342 ⟨hf_le rfl, hf_le rfl⟩ (hf_le rfl) ⟨rfl, rfl⟩ rfl dX12_ofFall_94 (fun _ => rfl) (fun v94 => ?_)
    refine hf_ald_n (pc := 97) 1 rfl rfl dX12_ofFall_97 ?_
    refine hf_getf (pc := 98) fl_X12_23 dX12_ofFall_98 (fun v98 => ?_)
    refine hf_ild (pc := 101) 5 rfl dX12_ofFall_101 ?_
    refine hf_iald (pc := 103) dX12_ofFall_103 (fun v103 => ?_)
    refine hf_iadd (pc := 104) dX12_ofFall_104 ?_
    refine hf_i2l (pc := 105) dX12_ofFall_105 ?_
    exact hf_sub [1, 2, 3, 4, 7, 8, 9, 0] rfl (j_X12_ofFall_106 x0 x1 x2 x3 x7 x8 x10 s0 (v94 + v103))
  · refine hf_lconst (pc := 87) (v := 1) dX12_ofFall_87 (by decide) ?_
    refine hf_goto (pc := 88) 106 dX12_ofFall_88 rfl ?_
    exact hf_sub [1, 2, 3, 4, 7, 8, 9, 0] rfl (j_X12_ofFall_106 x0 x1 x2 x3 x7 x8 x10 s0 1)
set_option maxRecDepth 20000 in
theorem c_X12_ofFall (x0 x1 x2 x3 x4 x5 x6 : Int) : hf_Met M_X12_ofFall [2, 0, 0, 0, 0, 0, 0] [x0, x1, x2, x3, x4, x5, x6] (f_X12_ofFall x0 x1 x2 x3 x4 x5 x6) := by
  refine hf_met rfl (by decide) (by decide) (by decide) ?_
  show hf_J M_X12_ofFall 0 [(0, 2, x0), (1, 0, x1), (2, 0, x2), (3, 0, x3), (4, 0, x4), (5, 0, x5), (6, 0, x6)] [] _
  refine hf_ild (pc := 0) 6 rfl dX12_ofFall_0 ?_
  refine hf_ald_n (pc := 2) 0 rfl rfl dX12_ofFall_2 ?_
  refine hf_getf (pc := 3) fl_X12_17 dX12_ofFall_3 (fun v3 => ?_)
  refine hf_ild (pc := 6) 5 rfl dX12_ofFall_6 ?_
  refine hf_iald (pc := 8) dX12_ofFall_8 (fun v8 => ?_)
  refine hf_isub (pc := 9) dX12_ofFall_9 ?_
  refine hf_istB (pc := 10) (fun y => [(7, 0, y), (0, 2, x0), (1, 0, x1), (2, 0, x2), (3, 0, x3), (4, 0, x4), (5, 0, x5), (6, 0, x6)]) (by decide) (fun _ => rfl) dX12_ofFall_10 (fun x7_10 => ?_)
  refine hf_ald_n (pc := 12) 1 rfl rfl dX12_ofFall_12 ?_
  refine hf_ild (pc := 13) 0 rfl dX12_ofFall_13 ?_
  refine hf_ild_n (pc := 15) 4 rfl rfl dX12_ofFall_15 ?_
  refine hf_ild (pc := 16) 5 rfl dX12_ofFall_16 ?_
  refine hf_cV (pc := 18) (N := M_X12_bestAt) (ts := [0, 0, 0]) (vs := [x7_10, x3, x4]) (st := []) (fun r => [(1, r)]) (c_X12_bestAt x0 x7_10 x3 x4) cal_X12_bestAt ml_X12_335 ⟨hf_le rfl, hf_le rfl⟩ (hf_le rfl) ⟨rfl, rfl⟩ rfl dX12_ofFall_18 (fun _ => rfl) (fun v18 => ?_)
  refine hf_lst (pc := 21) (lv' := [(8, 1, v18), (7, 0, x7_10), (0, 2, x0), (1, 0, x1), (2, 0, x2), (3, 0, x3), (4, 0, x4), (5, 0, x5), (6, 0, x6)]) (by decide) rfl dX12_ofFall_21 ?_
  refine hf_ald_n (pc := 23) 2 rfl rfl dX12_ofFall_23 ?_
  refine hf_ild_n (pc := 24) 4 rfl rfl dX12_ofFall_24 ?_
  refine hf_ild (pc := 25) 1 rfl dX12_ofFall_25 ?_
  refine hf_iconst (pc := 27) dX12_ofFall_27 ?_
  refine hf_isub (pc := 28) dX12_ofFall_28 ?_
  refine hf_ild (pc := 29) 6 rfl dX12_ofFall_29 ?_
  refine hf_ild (pc := 31) 7 rfl dX12_ofFall_31 ?_
  refine hf_cS (pc := 33) (N := M_X12_oneOf) (ts := [0]) (vs := [x5]) (st := [(0, x4), (0, (x7_10 - 1)), (0, x2), (2, x0)]) (fun r => [(0, r), (0, x4), (0, (x7_10 - 1)), (0, x2), (2, x0)]) (c_X12_oneOf x5) cal_X12_oneOf ml_X12_339 ⟨hf_le rfl, hf_le rfl⟩ (hf_le rfl) ⟨rfl, rfl⟩ rfl dX12_ofFall_33 (fun _ => rfl) (fun v33 => ?_)
  refine hf_isub (pc := 36) dX12_ofFall_36 ?_
  refine hf_cV (pc := 37) (N := M_X12_bestAt) (ts := [0, 0, 0]) (vs := [x2, (x7_10 - 1), (x4 - v33)]) (st := []) (fun r => [(1, r)]) (c_X12_bestAt x0 x2 (x7_10 - 1) (x4 - v33)) cal_X12_bestAt ml_X12_335 ⟨hf_le rfl, hf_le rfl⟩ (hf_le rfl) ⟨rfl, rfl⟩ rfl dX12_ofFall_37 (fun _ => rfl) (fun v37 => ?_)
  refine hf_lst (pc := 40) (lv' := [(10, 1, v37), (8, 1, v18), (7, 0, x7_10), (0, 2, x0), (1, 0, x1), (2, 0, x2), (3, 0, x3), (4, 0, x4), (5, 0, x5), (6, 0, x6)]) (by decide) rfl dX12_ofFall_40 ?_
  refine hf_lld (pc := 42) 1 rfl dX12_ofFall_42 ?_
  refine hf_ldc2 (pc := 44) (n := 1000000000000) co_X12_278 (by decide) dX12_ofFall_44 ?_
  refine hf_lcm_ge (pc := 47) 60 dX12_ofFall_47 dX12_ofFall_48 rfl ?_ ?_
  · exact hf_sub [] rfl j_X12_ofFall_60
  · refine hf_lld (pc := 51) 0 rfl dX12_ofFall_51 ?_
    refine hf_ldc2 (pc := 53) (n := 1000000000000) co_X12_278 (by decide) dX12_ofFall_53 ?_
    refine hf_lcm_lt (pc := 56) 64 dX12_ofFall_56 dX12_ofFall_57 rfl ?_ ?_
    · refine hf_ild_n (pc := 64) 4 rfl rfl dX12_ofFall_64 ?_
      refine hf_iconst (pc := 65) dX12_ofFall_65 ?_
      refine hf_icmp_ge (pc := 66) 73 dX12_ofFall_66 rfl ?_ ?_
      · refine hf_ald_n (pc := 73) 3 rfl rfl dX12_ofFall_73 ?_
        refine hf_ild (pc := 74) 9 rfl dX12_ofFall_74 ?_
        refine hf_cV (pc := 76) (N := M_X12_costOf) (ts := [0]) (vs := [x6]) (st := []) (fun r => [(0, r)]) (c_X12_costOf x0 x6) cal_X12_costOf ml_X12_342 ⟨hf_le rfl, hf_le rfl⟩ (hf_le rfl) ⟨rfl, rfl⟩ rfl dX12_ofFall_76 (fun _ => rfl) (fun v76 => ?_)
        refine hf_i2l (pc := 79) dX12_ofFall_79 ?_
        exact hf_sub [3, 4, 5, 6, 8, 9, 2, 1, 0] rfl (j_X12_ofFall_80 x0 x1 x2 x3 x5 x6 x7_10 v18 v37 v76)
      · refine hf_lconst (pc := 69) (v := 1) dX12_ofFall_69 (by decide) ?_
        refine hf_goto (pc := 70) 80 dX12_ofFall_70 rfl ?_
        exact hf_sub [3, 4, 5, 6, 8, 9, 2, 1, 0] rfl (j_X12_ofFall_80 x0 x1 x2 x3 x5 x6 x7_10 v18 v37 1)
    · exact hf_sub [] rfl j_X12_ofFall_60
/-! HighFallModel.bestOf(IIII)J -/
def M_X12_bestOf : hf_D := (yX12_bestOf, cX12_bestOf, 13, some .long, 2, 58)
def f_X12_bestOf_171 (rec_27 : Int × Int → hf_M Int) (x0 x1 x2 x3 x4 x5 x7 : Int) : hf_M Int :=
  hf_bd (hf_ret (x7 + 1)) (fun x7_171 => rec_27 (x5, x7_171))
def f_X12_bestOf_165 (rec_27 : Int × Int → hf_M Int) (rec_116 : Int × Int → hf_M Int) (x0 x1 x2 x3 x4 x5 x7 x9 x10 : Int) : hf_M Int :=
  hf_bd (hf_ret (x10 + 1)) (fun x10_165 => rec_116 (x5, x10_165))
def B_X12_bestOf_116 (rec_27 : Int × Int → hf_M Int) (x0 x1 x2 x3 x4 x7 x9 : Int) (rec_116 : Int × Int → hf_M Int) (x5 x10 : Int) : hf_M Int :=
  hf_cb x10 x9 (x9 < x10) (f_X12_bestOf_171 rec_27 x0 x1 x2 x3 x4 x5 x7) (hf_bd (hf_ob 12 x0 (f_X12_ofFall x0 x1 x2 x3 x4 x7 x10)) (fun v133 => hf_cl v133 x5 (v133 < x5) (hf_bd (hf_pf 12 52 x0 x7) (fun _ => hf_bd (hf_pf 12 53 x0 x10) (fun _ => f_X12_bestOf_165 rec_27 rec_116 x0 x1 x2 x3 x4 v133 x7 x9 x10))) (f_X12_bestOf_165 rec_27 rec_116 x0 x1 x2 x3 x4 x5 x7 x9 x10)))
def f_X12_bestOf_116 (rec_27 : Int × Int → hf_M Int) (x0 x1 x2 x3 x4 x5 x7 x9 x10 : Int) : hf_M Int := hf_fx (fun rec s => B_X12_bestOf_116 rec_27 x0 x1 x2 x3 x4 x7 x9 rec s.1 s.2) hf_N (x5, x10)
def f_X12_bestOf_110 (rec_27 : Int × Int → hf_M Int) (x0 x1 x2 x3 x4 x5 x7 x8 s0 : Int) : hf_M Int :=
  f_X12_bestOf_116 rec_27 x0 x1 x2 x3 x4 x5 x7 s0 x8
def f_X12_bestOf_76 (rec_27 : Int × Int → hf_M Int) (x0 x1 x2 x3 x4 x5 x7 s0 : Int) : hf_M Int :=
  hf_bd (hf_gf 12 4 x0) (fun v80 => hf_bd (hf_al 20 v80 x7) (fun v85 => hf_bd (hf_gf 12 3 x0) (fun v88 => hf_cb (x3 + v85) v88 (v88 ≤ (x3 + v85)) (hf_bd (hf_gf 12 3 x0) (fun v107 => f_X12_bestOf_110 rec_27 x0 x1 x2 x3 x4 x5 x7 s0 v107)) (hf_bd (hf_gf 12 4 x0) (fun v96 => hf_bd (hf_al 20 v96 x7) (fun v101 => f_X12_bestOf_110 rec_27 x0 x1 x2 x3 x4 x5 x7 s0 (x3 + v101)))))))
def B_X12_bestOf_27 (x0 x1 x2 x3 x4 : Int) (rec_27 : Int × Int → hf_M Int) (x5 x7 : Int) : hf_M Int :=
  hf_cb x7 3 (3 ≤ x7) (hf_ret x5) (hf_bd (f_X12_leftOf x4 x7) (fun v37 => hf_cz v37 (¬ v37 = 0) (hf_bd (hf_gf 12 4 x0) (fun v50 => hf_bd (hf_al 20 v50 x7) (fun v55 => hf_cb ((x2 + 1) + v55) 1 (((x2 + 1) + v55) ≤ 1) (f_X12_bestOf_76 rec_27 x0 x1 x2 x3 x4 x5 x7 1) (hf_bd (hf_gf 12 4 x0) (fun v65 => hf_bd (hf_al 20 v65 x7) (fun v70 => f_X12_bestOf_76 rec_27 x0 x1 x2 x3 x4 x5 x7 ((x2 + 1) + v70))))))) (f_X12_bestOf_171 rec_27 x0 x1 x2 x3 x4 x5 x7)))
def f_X12_bestOf_27 (x0 x1 x2 x3 x4 x5 x7 : Int) : hf_M Int := hf_fx (fun rec s => B_X12_bestOf_27 x0 x1 x2 x3 x4 rec s.1 s.2) hf_N (x5, x7)
def f_X12_bestOf_12 (x0 x1 x2 x3 x4 s0 : Int) : hf_M Int :=
  hf_bd (hf_pf 12 52 x0 (-1)) (fun _ => hf_bd (hf_pf 12 53 x0 (-1)) (fun _ => f_X12_bestOf_27 x0 x1 x2 x3 x4 s0 0))
def f_X12_bestOf (x0 x1 x2 x3 x4 : Int) : hf_M Int :=
  hf_cb x2 x3 (¬ x2 = x3) (f_X12_bestOf_12 x0 x1 x2 x3 x4 1000000000000) (f_X12_bestOf_12 x0 x1 x2 x3 x4 0)
theorem cal_X12_bestOf : hf_cv M_X12_bestOf 12 4 := ⟨⟨ii_X12, kc_X12_bestOf, by decide, by decide, by decide +kernel⟩, ki_X12_bestOf, kv_X12_bestOf, _, rfl, rfl⟩
set_option maxRecDepth 20000 in
theorem j_X12_bestOf_171 (x0 x1 x2 x3 x4 x5 x7 : Int) (rec_27 : Int × Int → hf_M Int) (hrec_27 : ∀ s : Int × Int, hf_J M_X12_bestOf 27 [(0, 2, x0), (1, 0, x1), (2, 0, x2), (3, 0, x3), (4, 0, x4), (5, 1, s.1), (7, 0, s.2)] [] (rec_27 s)) : hf_J M_X12_bestOf 171 [(0, 2, x0), (1, 0, x1), (2, 0, x2), (3, 0, x3), (4, 0, x4), (5, 1, x5), (7, 0, x7)] [] (f_X12_bestOf_171 rec_27 x0 x1 x2 x3 x4 x5 x7) := by
  refine hf_iincB (pc := 171) (fun y => [(7, 0, y), (0, 2, x0), (1, 0, x1), (2, 0, x2), (3, 0, x3), (4, 0, x4), (5, 1, x5)]) (q := 6) rfl (by decide) (fun _ => rfl) dX12_bestOf_171 (fun x7_171 => ?_)
  refine hf_goto (pc := 174) 27 dX12_bestOf_174 rfl ?_
  exact hf_sub [1, 2, 3, 4, 5, 6, 0] rfl (hrec_27 (x5, x7_171))
set_option maxRecDepth 20000 in
theorem j_X12_bestOf_165 (x0 x1 x2 x3 x4 x5 x7 x9 x10 : Int) (rec_27 : Int × Int → hf_M Int) (hrec_27 : ∀ s : Int × Int, hf_J M_X12_bestOf 27 [(0, 2, x0), (1, 0, x1), (2, 0, x2), (3, 0, x3), (4, 0, x4), (5, 1, s.1), (7, 0, s.2)] [] (rec_27 s)) (rec_116 : Int × Int → hf_M Int) (hrec_116 : ∀ s : Int × Int, hf_J M_X12_bestOf 116 [(0, 2, x0), (1, 0, x1), (2, 0, x2), (3, 0, x3), (4, 0, x4), (5, 1, s.1), (7, 0, x7), (9, 0, x9), (10, 0, s.2)] [] (rec_116 s)) : hf_J M_X12_bestOf 165 [(0, 2, x0), (1, 0, x1), (2, 0, x2), (3, 0, x3), (4, 0, x4), (5, 1, x5), (7, 0, x7), (9, 0, x9), (10, 0, x10)] [] (f_X12_bestOf_165 rec_27 rec_116 x0 x1 x2 x3 x4 x5 x7 x9 x10) := by
  refine hf_iincB (pc := 165) (fun y => [(10, 0, y), (0, 2, x0), (1, 0, x1), (2, 0, x2), (3, 0, x3), (4, 0, x4), (5, 1, x5), (7, 0, x7), (9, 0, x9)]) (q := 8) rfl (by decide) (fun _ => rfl) dX12_bestOf_165 (fun x10_165 => ?_)
  refine hf_goto (pc := 168) 116 dX12_bestOf_168 rfl ?_
  exact hf_sub [1, 2, 3, 4, 5, 6, 7, 8, 0] rfl (hrec_116 (x5, x10_165))
set_option maxRecDepth 20000 in
theorem jb_X12_bestOf_116 (x0 x1 x2 x3 x4 x7 x9 : Int) (rec_27 : Int × Int → hf_M Int) (hrec_27 : ∀ s : Int × Int, hf_J M_X12_bestOf 27 [(0, 2, x0), (1, 0, x1), (2, 0, x2), (3, 0, x3), (4, 0, x4), (5, 1, s.1), (7, 0, s.2)] [] (rec_27 s)) (rec_116 : Int × Int → hf_M Int) (hrec_116 : ∀ s : Int × Int, hf_J M_X12_bestOf 116 [(0, 2, x0), (1, 0, x1), (2, 0, x2), (3, 0, x3), (4, 0, x4), (5, 1, s.1), (7, 0, x7), (9, 0, x9), (10, 0, s.2)] [] (rec_116 s)) (x5 x10 : Int) : hf_J M_X12_bestOf 116 [(0, 2, x0), (1, 0, x1), (2, 0, x2), (3, 0, x3), (4, 0, x4), (5, 1, x5), (7, 0, x7), (9, 0, x9), (10, 0, x10)] [] (B_X12_bestOf_116 rec_27 x0 x1 x2 x3 x4 x7 x9 rec_116 x5 x10) := by
  refine hf_ild (pc := 116) 8 rfl dX12_bestOf_116 ?_
  refine hf_ild (pc := 118) 7 rfl dX12_bestOf_118 ?_
  refine hf_icmp_gt (pc := 120) 171 dX12_bestOf_120 rfl ?_ ?_
  · exact hf_sub [0, 1, 2, 3, 4, 5, 6] rfl (j_X12_bestOf_171 x0 x1 x2 x3 x4 x5 x7 rec_27 hrec_27)
  · refine hf_ald_n (pc := 123) 0 rfl rfl dX12_bestOf_123 ?_
    refine hf_ild_n (pc := 124) 1 rfl rfl dX12_bestOf_124 ?_
    refine hf_ild_n (pc := 125) 2 rfl rfl dX12_bestOf_125 ?_
    refine hf_ild_n (pc := 126) 3 rfl rfl dX12_bestOf_126 ?_
    refine hf_ild (pc := 127) 4 rfl dX12_bestOf_127 ?_
    refine hf_ild (pc := 129) 6 rfl dX12_bestOf_129 ?_
    refine hf_ild (pc := 131) 8 rfl dX12_bestOf_131 ?_
    refine hf_cV (pc := 133) (N := M_X12_ofFall) (ts := [0, 0, 0, 0, 0, 0]) (vs := [x1, x2, x3, x4, x7, x10]) (st := []) (fun r => [(1, r)]) (c_X12_ofFall x0 x1 x2 x3 x4 x7 x10) cal_X12_ofFall ml_X12_354 ⟨hf_le rfl, hf_le rfl⟩ (hf_le rfl) ⟨rfl, rfl⟩ rfl dX12_bestOf_133 (fun _ => rfl) (fun v133 => ?_)
    refine hf_lst (pc := 136) (lv' := [(11, 1, v133), (0, 2, x0), (1, 0, x1), (2, 0, x2), (3, 0, x3), (4, 0, x4), (5, 1, x5), (7, 0, x7), (9, 0, x9), (10, 0, x10)]) (by decide) rfl dX12_bestOf_136 ?_
    refine hf_lld (pc := 138) 0 rfl dX12_bestOf_138 ?_
    refine hf_lld (pc := 140) 6 rfl dX12_bestOf_140 ?_
    refine hf_lcm_lt (pc := 142) 149 dX12_bestOf_142 dX12_bestOf_143 rfl ?_ ?_
    · refine hf_lld (pc := 149) 0 rfl dX12_bestOf_149 ?_
      refine hf_lst (pc := 151) (lv' := [(5, 1, v133), (11, 1, v133), (0, 2, x0), (1, 0, x1), (2, 0, x2), (3, 0, x3), (4, 0, x4), (7, 0, x7), (9, 0, x9), (10, 0, x10)]) (by decide) rfl dX12_bestOf_151 ?_
      refine hf_ald_n (pc := 153) 2 rfl rfl dX12_bestOf_153 ?_
      refine hf_ild (pc := 154) 7 rfl dX12_bestOf_154 ?_
      refine hf_putf (pc := 156) fl_X12_345 trivial dX12_bestOf_156 ?_
      refine hf_ald_n (pc := 159) 2 rfl rfl dX12_bestOf_159 ?_
      refine hf_ild (pc := 160) 9 rfl dX12_bestOf_160 ?_
      refine hf_putf (pc := 162) fl_X12_348 trivial dX12_bestOf_162 ?_
      exact hf_sub [2, 3, 4, 5, 6, 0, 7, 8, 9] rfl (j_X12_bestOf_165 x0 x1 x2 x3 x4 v133 x7 x9 x10 rec_27 hrec_27 rec_116 hrec_116)
    · refine hf_goto (pc := 146) 165 dX12_bestOf_146 rfl ?_
      exact hf_sub [1, 2, 3, 4, 5, 6, 7, 8, 9] rfl (j_X12_bestOf_165 x0 x1 x2 x3 x4 x5 x7 x9 x10 rec_27 hrec_27 rec_116 hrec_116)
set_option maxRecDepth 20000 in
theorem j_X12_bestOf_116 (x0 x1 x2 x3 x4 x5 x7 x9 x10 : Int) (rec_27 : Int × Int → hf_M Int) (hrec_27 : ∀ s : Int × Int, hf_J M_X12_bestOf 27 [(0, 2, x0), (1, 0, x1), (2, 0, x2), (3, 0, x3), (4, 0, x4), (5, 1, s.1), (7, 0, s.2)] [] (rec_27 s)) : hf_J M_X12_bestOf 116 [(0, 2, x0), (1, 0, x1), (2, 0, x2), (3, 0, x3), (4, 0, x4), (5, 1, x5), (7, 0, x7), (9, 0, x9), (10, 0, x10)] [] (f_X12_bestOf_116 rec_27 x0 x1 x2 x3 x4 x5 x7 x9 x10) :=
  hf_Jfx (L := fun s => [(0, 2, x0), (1, 0, x1), (2, 0, x2), (3, 0, x3), (4, 0, x4), (5, 1, s.1), (7, 0, x7), (9, 0, x9), (10, 0, s.2)]) (fun rec hrec s => jb_X12_bestOf_116 x0 x1 x2 x3 x4 x7 x9 rec_27 hrec_27 rec hrec s.1 s.2) hf_N (x5, x10)
set_option maxRecDepth 20000 in
theorem j_X12_bestOf_110 (x0 x1 x2 x3 x4 x5 x7 x8 s0 : Int) (rec_27 : Int × Int → hf_M Int) (hrec_27 : ∀ s : Int × Int, hf_J M_X12_bestOf 27 [(0, 2, x0), (1, 0, x1), (2, 0, x2), (3, 0, x3), (4, 0, x4), (5, 1, s.1), (7, 0, s.2)] [] (rec_27 s)) : hf_J M_X12_bestOf 110 [(0, 2, x0), (1, 0, x1), (2, 0, x2), (3, 0, x3), (4, 0, x4), (5, 1, x5), (7, 0, x7), (8, 0, x8)] [(0, s0)] (f_X12_bestOf_110 rec_27 x0 x1 x2 x3 x4 x5 x7 x8 s0) := by
  refine hf_ist (pc := 110) (lv' := [(9, 0, s0), (0, 2, x0), (1, 0, x1), (2, 0, x2), (3, 0, x3), (4, 0, x4), (5, 1, x5), (7, 0, x7), (8, 0, x8)]) (by decide) rfl dX12_bestOf_110 ?_
  refine hf_ild (pc := 112) 8 rfl dX12_bestOf_112 ?_
  refine hf_ist (pc := 114) (lv' := [(10, 0, x8), (9, 0, s0), (0, 2, x0), (1, 0, x1), (2, 0, x2), (3, 0, x3), (4, 0, x4), (5, 1, x5), (7, 0, x7), (8, 0, x8)]) (by decide) rfl dX12_bestOf_114 ?_
  exact hf_sub [2, 3, 4, 5, 6, 7, 8, 1, 0] rfl (j_X12_bestOf_116 x0 x1 x2 x3 x4 x5 x7 s0 x8 rec_27 hrec_27)
set_option maxRecDepth 20000 in
theorem j_X12_bestOf_76 (x0 x1 x2 x3 x4 x5 x7 s0 : Int) (rec_27 : Int × Int → hf_M Int) (hrec_27 : ∀ s : Int × Int, hf_J M_X12_bestOf 27 [(0, 2, x0), (1, 0, x1), (2, 0, x2), (3, 0, x3), (4, 0, x4), (5, 1, s.1), (7, 0, s.2)] [] (rec_27 s)) : hf_J M_X12_bestOf 76 [(0, 2, x0), (1, 0, x1), (2, 0, x2), (3, 0, x3), (4, 0, x4), (5, 1, x5), (7, 0, x7)] [(0, s0)] (f_X12_bestOf_76 rec_27 x0 x1 x2 x3 x4 x5 x7 s0) := by
  refine hf_ist (pc := 76) (lv' := [(8, 0, s0), (0, 2, x0), (1, 0, x1), (2, 0, x2), (3, 0, x3), (4, 0, x4), (5, 1, x5), (7, 0, x7)]) (by decide) rfl dX12_bestOf_76 ?_
  refine hf_ild_n (pc := 78) 4 rfl rfl dX12_bestOf_78 ?_
  refine hf_ald_n (pc := 79) 1 rfl rfl dX12_bestOf_79 ?_
  refine hf_getf (pc := 80) fl_X12_17 dX12_bestOf_80 (fun v80 => ?_)
  refine hf_ild (pc := 83) 7 rfl dX12_bestOf_83 ?_
  refine hf_iald (pc := 85) dX12_bestOf_85 (fun v85 => ?_)
  refine hf_iadd (pc := 86) dX12_bestOf_86 ?_
  refine hf_ald_n (pc := 87) 1 rfl rfl dX12_bestOf_87 ?_
  refine hf_getf (pc := 88) fl_X12_13 dX12_bestOf_88 (fun v88 => ?_)
  refine hf_icmp_ge (pc := 91) 106 dX12_bestOf_91 rfl ?_ ?_
  · refine hf_ald_n (pc := 106) 1 rfl rfl dX12_bestOf_106 ?_
    refine hf_getf (pc := 107) fl_X12_13 dX12_bestOf_107 (fun v107 => ?_)
    exact hf_sub [1, 2, 3, 4, 5, 6, 7, 0] rfl (j_X12_bestOf_110 x0 x1 x2 x3 x4 x5 x7 s0 v107 rec_27 hrec_27)
  · refine hf_ild_n (pc := 94) 4 rfl rfl dX12_bestOf_94 ?_
    refine hf_ald_n (pc := 95) 1 rfl rfl dX12_bestOf_95 ?_
    refine hf_getf (pc := 96) fl_X12_17 dX12_bestOf_96 (fun v96 => ?_)
    refine hf_ild (pc := 99) 7 rfl dX12_bestOf_99 ?_
    refine hf_iald (pc := 101) dX12_bestOf_101 (fun v101 => ?_)
    refine hf_iadd (pc := 102) dX12_bestOf_102 ?_
    refine hf_goto (pc := 103) 110 dX12_bestOf_103 rfl ?_
    exact hf_sub [1, 2, 3, 4, 5, 6, 7, 0] rfl (j_X12_bestOf_110 x0 x1 x2 x3 x4 x5 x7 s0 (x3 + v101) rec_27 hrec_27)
set_option maxRecDepth 20000 in
theorem jb_X12_bestOf_27 (x0 x1 x2 x3 x4 : Int) (rec_27 : Int × Int → hf_M Int) (hrec_27 : ∀ s : Int × Int, hf_J M_X12_bestOf 27 [(0, 2, x0), (1, 0, x1), (2, 0, x2), (3, 0, x3), (4, 0, x4), (5, 1, s.1), (7, 0, s.2)] [] (rec_27 s)) (x5 x7 : Int) : hf_J M_X12_bestOf 27 [(0, 2, x0), (1, 0, x1), (2, 0, x2), (3, 0, x3), (4, 0, x4), (5, 1, x5), (7, 0, x7)] [] (B_X12_bestOf_27 x0 x1 x2 x3 x4 rec_27 x5 x7) := by
  refine hf_ild (pc := 27) 6 rfl dX12_bestOf_27 ?_
  refine hf_iconst (pc := 29) dX12_bestOf_29 ?_
  refine hf_icmp_ge (pc := 30) 177 dX12_bestOf_30 rfl ?_ ?_
  · refine hf_lld (pc := 177) 5 rfl dX12_bestOf_177 ?_
    exact hf_Jret (pc := 179) dX12_bestOf_179 (fun _ => rfl)
  · refine hf_ild (pc := 33) 4 rfl dX12_bestOf_33 ?_
    refine hf_ild (pc := 35) 6 rfl dX12_bestOf_35 ?_
    refine hf_cS (pc := 37) (N := M_X12_leftOf) (ts := [0, 0]) (vs := [x4, x7]) (st := []) (fun r => [(0, r)]) (c_X12_leftOf x4 x7) cal_X12_leftOf ml_X12_351 ⟨hf_le rfl, hf_le rfl⟩ (hf_le rfl) ⟨rfl, rfl⟩ rfl dX12_bestOf_37 (fun _ => rfl) (fun v37 => ?_)
    refine hf_if_ne (pc := 40) 46 dX12_bestOf_40 rfl ?_ ?_
    · refine hf_ild_n (pc := 46) 2 rfl rfl dX12_bestOf_46 ?_
      refine hf_iconst (pc := 47) dX12_bestOf_47 ?_
      refine hf_iadd (pc := 48) dX12_bestOf_48 ?_
      refine hf_ald_n (pc := 49) 0 rfl rfl dX12_bestOf_49 ?_
      refine hf_getf (pc := 50) fl_X12_17 dX12_bestOf_50 (fun v50 => ?_)
      refine hf_ild (pc := 53) 6 rfl dX12_bestOf_53 ?_
      refine hf_iald (pc := 55) dX12_bestOf_55 (fun v55 => ?_)
      refine hf_iadd (pc := 56) dX12_bestOf_56 ?_
      refine hf_iconst (pc := 57) dX12_bestOf_57 ?_
      refine hf_icmp_le (pc := 58) 75 dX12_bestOf_58 rfl ?_ ?_
      · refine hf_iconst (pc := 75) dX12_bestOf_75 ?_
        exact hf_sub [0, 1, 2, 3, 4, 5, 6] rfl (j_X12_bestOf_76 x0 x1 x2 x3 x4 x5 x7 1 rec_27 hrec_27)
      · refine hf_ild_n (pc := 61) 2 rfl rfl dX12_bestOf_61 ?_
        refine hf_iconst (pc := 62) dX12_bestOf_62 ?_
        refine hf_iadd (pc := 63) dX12_bestOf_63 ?_
        refine hf_ald_n (pc := 64) 0 rfl rfl dX12_bestOf_64 ?_
        refine hf_getf (pc := 65) fl_X12_17 dX12_bestOf_65 (fun v65 => ?_)
        refine hf_ild (pc := 68) 6 rfl dX12_bestOf_68 ?_
        refine hf_iald (pc := 70) dX12_bestOf_70 (fun v70 => ?_)
        refine hf_iadd (pc := 71) dX12_bestOf_71 ?_
        refine hf_goto (pc := 72) 76 dX12_bestOf_72 rfl ?_
        exact hf_sub [0, 1, 2, 3, 4, 5, 6] rfl (j_X12_bestOf_76 x0 x1 x2 x3 x4 x5 x7 ((x2 + 1) + v70) rec_27 hrec_27)
    · refine hf_goto (pc := 43) 171 dX12_bestOf_43 rfl ?_
      exact hf_sub [0, 1, 2, 3, 4, 5, 6] rfl (j_X12_bestOf_171 x0 x1 x2 x3 x4 x5 x7 rec_27 hrec_27)
set_option maxRecDepth 20000 in
theorem j_X12_bestOf_27 (x0 x1 x2 x3 x4 x5 x7 : Int) : hf_J M_X12_bestOf 27 [(0, 2, x0), (1, 0, x1), (2, 0, x2), (3, 0, x3), (4, 0, x4), (5, 1, x5), (7, 0, x7)] [] (f_X12_bestOf_27 x0 x1 x2 x3 x4 x5 x7) :=
  hf_Jfx (L := fun s => [(0, 2, x0), (1, 0, x1), (2, 0, x2), (3, 0, x3), (4, 0, x4), (5, 1, s.1), (7, 0, s.2)]) (fun rec hrec s => jb_X12_bestOf_27 x0 x1 x2 x3 x4 rec hrec s.1 s.2) hf_N (x5, x7)
set_option maxRecDepth 20000 in
theorem j_X12_bestOf_12 (x0 x1 x2 x3 x4 s0 : Int) : hf_J M_X12_bestOf 12 [(0, 2, x0), (1, 0, x1), (2, 0, x2), (3, 0, x3), (4, 0, x4)] [(1, s0)] (f_X12_bestOf_12 x0 x1 x2 x3 x4 s0) := by
  refine hf_lst (pc := 12) (lv' := [(5, 1, s0), (0, 2, x0), (1, 0, x1), (2, 0, x2), (3, 0, x3), (4, 0, x4)]) (by decide) rfl dX12_bestOf_12 ?_
  refine hf_ald_n (pc := 14) 1 rfl rfl dX12_bestOf_14 ?_
  refine hf_iconst (pc := 15) dX12_bestOf_15 ?_
  refine hf_putf (pc := 16) fl_X12_345 trivial dX12_bestOf_16 ?_
  refine hf_ald_n (pc := 19) 1 rfl rfl dX12_bestOf_19 ?_
  refine hf_iconst (pc := 20) dX12_bestOf_20 ?_
  refine hf_putf (pc := 21) fl_X12_348 trivial dX12_bestOf_21 ?_
  refine hf_iconst (pc := 24) dX12_bestOf_24 ?_
  refine hf_ist (pc := 25) (lv' := [(7, 0, 0), (5, 1, s0), (0, 2, x0), (1, 0, x1), (2, 0, x2), (3, 0, x3), (4, 0, x4)]) (by decide) rfl dX12_bestOf_25 ?_
  exact hf_sub [2, 3, 4, 5, 6, 1, 0] rfl (j_X12_bestOf_27 x0 x1 x2 x3 x4 s0 0)
set_option maxRecDepth 20000 in
theorem c_X12_bestOf (x0 x1 x2 x3 x4 : Int) : hf_Met M_X12_bestOf [2, 0, 0, 0, 0] [x0, x1, x2, x3, x4] (f_X12_bestOf x0 x1 x2 x3 x4) := by
  refine hf_met rfl (by decide) (by decide) (by decide) ?_
  show hf_J M_X12_bestOf 0 [(0, 2, x0), (1, 0, x1), (2, 0, x2), (3, 0, x3), (4, 0, x4)] [] _
  refine hf_ild_n (pc := 0) 2 rfl rfl dX12_bestOf_0 ?_
  refine hf_ild_n (pc := 1) 3 rfl rfl dX12_bestOf_1 ?_
  refine hf_icmp_ne (pc := 2) 9 dX12_bestOf_2 rfl ?_ ?_
  · refine hf_ldc2 (pc := 9) (n := 1000000000000) co_X12_278 (by decide) dX12_bestOf_9 ?_
    exact hf_sub [0, 1, 2, 3, 4] rfl (j_X12_bestOf_12 x0 x1 x2 x3 x4 1000000000000)
  · refine hf_lconst (pc := 5) (v := 0) dX12_bestOf_5 (by decide) ?_
    refine hf_goto (pc := 6) 12 dX12_bestOf_6 rfl ?_
    exact hf_sub [0, 1, 2, 3, 4] rfl (j_X12_bestOf_12 x0 x1 x2 x3 x4 0)
/-! HighFallModel.layBest(IIII)J -/
def M_X12_layBest : hf_D := (yX12_layBest, cX12_layBest, 8, some .long, 3, 90)
def f_X12_layBest_121 (rec_45 : Int → hf_M Int) (rec_56 : Int → hf_M Int) (rec_68 : Int → hf_M Int) (x0 x1 x2 x3 x4 x5 x6 x7 : Int) : hf_M Int :=
  hf_bd (hf_ret (x7 + 1)) (fun x7_121 => rec_68 x7_121)
def B_X12_layBest_68 (rec_45 : Int → hf_M Int) (rec_56 : Int → hf_M Int) (x0 x1 x2 x3 x4 x5 x6 : Int) (rec_68 : Int → hf_M Int) (x7 : Int) : hf_M Int :=
  hf_cb x7 x4 (x4 < x7) (hf_bd (hf_ret (x6 + 1)) (fun x6_127 => rec_56 x6_127)) (hf_bd (f_X12_isWithin x7 x4) (fun v79 => hf_cz v79 (v79 = 0) (f_X12_layBest_121 rec_45 rec_56 rec_68 x0 x1 x2 x3 x4 x5 x6 x7) (hf_bd (hf_gf 12 50 x0) (fun v86 => hf_bd (hf_ob 12 x0 (f_X12_bestOf x0 x1 x6 (x6 + x5) x7)) (fun v117 => hf_bd (hf_as 21 v86 ((125 * (((41 * x6) + x6) + x5)) + x7) v117) (fun _ => f_X12_layBest_121 rec_45 rec_56 rec_68 x0 x1 x2 x3 x4 x5 x6 x7))))))
def f_X12_layBest_68 (rec_45 : Int → hf_M Int) (rec_56 : Int → hf_M Int) (x0 x1 x2 x3 x4 x5 x6 x7 : Int) : hf_M Int := hf_fx (fun rec s => B_X12_layBest_68 rec_45 rec_56 x0 x1 x2 x3 x4 x5 x6 rec s) hf_N x7
def B_X12_layBest_56 (rec_45 : Int → hf_M Int) (x0 x1 x2 x3 x4 x5 : Int) (rec_56 : Int → hf_M Int) (x6 : Int) : hf_M Int :=
  hf_cb (x6 + x5) x3 (x3 < (x6 + x5)) (hf_bd (hf_ret (x5 + 1)) (fun x5_133 => rec_45 x5_133)) (f_X12_layBest_68 rec_45 rec_56 x0 x1 x2 x3 x4 x5 x6 0)
def f_X12_layBest_56 (rec_45 : Int → hf_M Int) (x0 x1 x2 x3 x4 x5 x6 : Int) : hf_M Int := hf_fx (fun rec s => B_X12_layBest_56 rec_45 x0 x1 x2 x3 x4 x5 rec s) hf_N x6
def B_X12_layBest_45 (x0 x1 x2 x3 x4 : Int) (rec_45 : Int → hf_M Int) (x5 : Int) : hf_M Int :=
  hf_cb x5 (x3 - x2) ((x3 - x2) < x5) (hf_bd (hf_ob 12 x0 (f_X12_bestOf x0 x1 x2 x3 x4)) (fun v145 => hf_ret v145)) (f_X12_layBest_56 rec_45 x0 x1 x2 x3 x4 x5 x2)
def f_X12_layBest_45 (x0 x1 x2 x3 x4 x5 : Int) : hf_M Int := hf_fx (fun rec s => B_X12_layBest_45 x0 x1 x2 x3 x4 rec s) hf_N x5
def B_X12_layBest_3 (x0 x1 x2 x3 x4 : Int) (rec_3 : Int → hf_M Int) (x5 : Int) : hf_M Int :=
  hf_bd (hf_gf 12 3 x0) (fun v6 => hf_cb x5 v6 (v6 < x5) (f_X12_layBest_45 x0 x1 x2 x3 x4 0) (hf_bd (hf_gf 12 51 x0) (fun v13 => hf_bd (hf_gf 12 51 x0) (fun v21 => hf_bd (hf_al 20 v21 x5) (fun v26 => hf_bd (hf_gf 12 7 x0) (fun v28 => hf_bd (hf_al 20 v28 x5) (fun v33 => hf_bd (hf_as 20 v13 (x5 + 1) (v26 + v33)) (fun _ => hf_bd (hf_ret (x5 + 1)) (fun x5_36 => rec_3 x5_36)))))))))
def f_X12_layBest_3 (x0 x1 x2 x3 x4 x5 : Int) : hf_M Int := hf_fx (fun rec s => B_X12_layBest_3 x0 x1 x2 x3 x4 rec s) hf_N x5
def f_X12_layBest (x0 x1 x2 x3 x4 : Int) : hf_M Int :=
  f_X12_layBest_3 x0 x1 x2 x3 x4 0
theorem cal_X12_layBest : hf_cv M_X12_layBest 12 4 := ⟨⟨ii_X12, kc_X12_layBest, by decide, by decide, by decide +kernel⟩, ki_X12_layBest, kv_X12_layBest, _, rfl, rfl⟩
set_option maxRecDepth 20000 in
theorem j_X12_layBest_121 (x0 x1 x2 x3 x4 x5 x6 x7 : Int) (rec_45 : Int → hf_M Int) (hrec_45 : ∀ s : Int, hf_J M_X12_layBest 45 [(0, 2, x0), (1, 0, x1), (2, 0, x2), (3, 0, x3), (4, 0, x4), (5, 0, s)] [] (rec_45 s)) (rec_56 : Int → hf_M Int) (hrec_56 : ∀ s : Int, hf_J M_X12_layBest 56 [(0, 2, x0), (1, 0, x1), (2, 0, x2), (3, 0, x3), (4, 0, x4), (5, 0, x5), (6, 0, s)] [] (rec_56 s)) (rec_68 : Int → hf_M Int) (hrec_68 : ∀ s : Int, hf_J M_X12_layBest 68 [(0, 2, x0), (1, 0, x1), (2, 0, x2), (3, 0, x3), (4, 0, x4), (5, 0, x5), (6, 0, x6), (7, 0, s)] [] (rec_68 s)) : hf_J M_X12_layBest 121 [(0, 2, x0), (1, 0, x1), (2, 0, x2), (3, 0, x3), (4, 0, x4), (5, 0, x5), (6, 0, x6), (7, 0, x7)] [] (f_X12_layBest_121 rec_45 rec_56 rec_68 x0 x1 x2 x3 x4 x5 x6 x7) := by
  refine hf_iincB (pc := 121) (fun y => [(7, 0, y), (0, 2, x0), (1, 0, x1), (2, 0, x2), (3, 0, x3), (4, 0, x4), (5, 0, x5), (6, 0, x6)]) (q := 7) rfl (by decide) (fun _ => rfl) dX12_layBest_121 (fun x7_121 => ?_)
  refine hf_goto (pc := 124) 68 dX12_layBest_124 rfl ?_
  exact hf_sub [1, 2, 3, 4, 5, 6, 7, 0] rfl (hrec_68 x7_121)
set_option maxRecDepth 20000 in
theorem jb_X12_layBest_68 (x0 x1 x2 x3 x4 x5 x6 : Int) (rec_45 : Int → hf_M Int) (hrec_45 : ∀ s : Int, hf_J M_X12_layBest 45 [(0, 2, x0), (1, 0, x1), (2, 0, x2), (3, 0, x3), (4, 0, x4), (5, 0, s)] [] (rec_45 s)) (rec_56 : Int → hf_M Int) (hrec_56 : ∀ s : Int, hf_J M_X12_layBest 56 [(0, 2, x0), (1, 0, x1), (2, 0, x2), (3, 0, x3), (4, 0, x4), (5, 0, x5), (6, 0, s)] [] (rec_56 s)) (rec_68 : Int → hf_M Int) (hrec_68 : ∀ s : Int, hf_J M_X12_layBest 68 [(0, 2, x0), (1, 0, x1), (2, 0, x2), (3, 0, x3), (4, 0, x4), (5, 0, x5), (6, 0, x6), (7, 0, s)] [] (rec_68 s)) (x7 : Int) : hf_J M_X12_layBest 68 [(0, 2, x0), (1, 0, x1), (2, 0, x2), (3, 0, x3), (4, 0, x4), (5, 0, x5), (6, 0, x6), (7, 0, x7)] [] (B_X12_layBest_68 rec_45 rec_56 x0 x1 x2 x3 x4 x5 x6 rec_68 x7) := by
  refine hf_ild (pc := 68) 7 rfl dX12_layBest_68 ?_
  refine hf_ild (pc := 70) 4 rfl dX12_layBest_70 ?_
  refine hf_icmp_gt (pc := 72) 127 dX12_layBest_72 rfl ?_ ?_
  · refine hf_iincB (pc := 127) (fun y => [(6, 0, y), (0, 2, x0), (1, 0, x1), (2, 0, x2), (3, 0, x3), (4, 0, x4), (5, 0, x5), (7, 0, x7)]) (q := 6) rfl (by decide) (fun _ => rfl) dX12_layBest_127 (fun x6_127 => ?_)
    refine hf_goto (pc := 130) 56 dX12_layBest_130 rfl ?_
    exact hf_sub [1, 2, 3, 4, 5, 6, 0] rfl (hrec_56 x6_127)
  · refine hf_ild (pc := 75) 7 rfl dX12_layBest_75 ?_
    refine hf_ild (pc := 77) 4 rfl dX12_layBest_77 ?_
    refine hf_cS (pc := 79) (N := M_X12_isWithin) (ts := [0, 0]) (vs := [x7, x4]) (st := []) (fun r => [(0, r)]) (c_X12_isWithin x7 x4) cal_X12_isWithin ml_X12_358 ⟨hf_le rfl, hf_le rfl⟩ (hf_le rfl) ⟨rfl, rfl⟩ rfl dX12_layBest_79 (fun _ => rfl) (fun v79 => ?_)
    refine hf_if_eq (pc := 82) 121 dX12_layBest_82 rfl ?_ ?_
    · exact hf_sub [0, 1, 2, 3, 4, 5, 6, 7] rfl (j_X12_layBest_121 x0 x1 x2 x3 x4 x5 x6 x7 rec_45 hrec_45 rec_56 hrec_56 rec_68 hrec_68)
    · refine hf_ald_n (pc := 85) 0 rfl rfl dX12_layBest_85 ?_
      refine hf_getf (pc := 86) fl_X12_85 dX12_layBest_86 (fun v86 => ?_)
      refine hf_bipush (pc := 89) dX12_layBest_89 (by decide) ?_
      refine hf_bipush (pc := 91) dX12_layBest_91 (by decide) ?_
      refine hf_ild (pc := 93) 6 rfl dX12_layBest_93 ?_
      refine hf_imul (pc := 95) dX12_layBest_95 ?_
      refine hf_ild (pc := 96) 6 rfl dX12_layBest_96 ?_
      refine hf_iadd (pc := 98) dX12_layBest_98 ?_
      refine hf_ild (pc := 99) 5 rfl dX12_layBest_99 ?_
      refine hf_iadd (pc := 101) dX12_layBest_101 ?_
      refine hf_imul (pc := 102) dX12_layBest_102 ?_
      refine hf_ild (pc := 103) 7 rfl dX12_layBest_103 ?_
      refine hf_iadd (pc := 105) dX12_layBest_105 ?_
      refine hf_ald_n (pc := 106) 0 rfl rfl dX12_layBest_106 ?_
      refine hf_ild_n (pc := 107) 1 rfl rfl dX12_layBest_107 ?_
      refine hf_ild (pc := 108) 6 rfl dX12_layBest_108 ?_
      refine hf_ild (pc := 110) 6 rfl dX12_layBest_110 ?_
      refine hf_ild (pc := 112) 5 rfl dX12_layBest_112 ?_
      refine hf_iadd (pc := 114) dX12_layBest_114 ?_
      refine hf_ild (pc := 115) 7 rfl dX12_layBest_115 ?_
      refine hf_cV (pc := 117) (N := M_X12_bestOf) (ts := [0, 0, 0, 0]) (vs := [x1, x6, (x6 + x5), x7]) (st := [(0, ((125 * (((41 * x6) + x6) + x5)) + x7)), (2, v86)]) (fun r => [(1, r), (0, ((125 * (((41 * x6) + x6) + x5)) + x7)), (2, v86)]) (c_X12_bestOf x0 x1 x6 (x6 + x5) x7) cal_X12_bestOf ml_X12_361 ⟨hf_le rfl, hf_le rfl⟩ (hf_le rfl) ⟨rfl, rfl⟩ rfl dX12_layBest_117 (fun _ => rfl) (fun v117 => ?_)
      refine hf_last (pc := 120) dX12_layBest_120 ?_
      exact hf_sub [0, 1, 2, 3, 4, 5, 6, 7] rfl (j_X12_layBest_121 x0 x1 x2 x3 x4 x5 x6 x7 rec_45 hrec_45 rec_56 hrec_56 rec_68 hrec_68)
set_option maxRecDepth 20000 in
theorem j_X12_layBest_68 (x0 x1 x2 x3 x4 x5 x6 x7 : Int) (rec_45 : Int → hf_M Int) (hrec_45 : ∀ s : Int, hf_J M_X12_layBest 45 [(0, 2, x0), (1, 0, x1), (2, 0, x2), (3, 0, x3), (4, 0, x4), (5, 0, s)] [] (rec_45 s)) (rec_56 : Int → hf_M Int) (hrec_56 : ∀ s : Int, hf_J M_X12_layBest 56 [(0, 2, x0), (1, 0, x1), (2, 0, x2), (3, 0, x3), (4, 0, x4), (5, 0, x5), (6, 0, s)] [] (rec_56 s)) : hf_J M_X12_layBest 68 [(0, 2, x0), (1, 0, x1), (2, 0, x2), (3, 0, x3), (4, 0, x4), (5, 0, x5), (6, 0, x6), (7, 0, x7)] [] (f_X12_layBest_68 rec_45 rec_56 x0 x1 x2 x3 x4 x5 x6 x7) :=
  hf_Jfx (L := fun s => [(0, 2, x0), (1, 0, x1), (2, 0, x2), (3, 0, x3), (4, 0, x4), (5, 0, x5), (6, 0, x6), (7, 0, s)]) (fun rec hrec s => jb_X12_layBest_68 x0 x1 x2 x3 x4 x5 x6 rec_45 hrec_45 rec_56 hrec_56 rec hrec s) hf_N x7
set_option maxRecDepth 20000 in
theorem jb_X12_layBest_56 (x0 x1 x2 x3 x4 x5 : Int) (rec_45 : Int → hf_M Int) (hrec_45 : ∀ s : Int, hf_J M_X12_layBest 45 [(0, 2, x0), (1, 0, x1), (2, 0, x2), (3, 0, x3), (4, 0, x4), (5, 0, s)] [] (rec_45 s)) (rec_56 : Int → hf_M Int) (hrec_56 : ∀ s : Int, hf_J M_X12_layBest 56 [(0, 2, x0), (1, 0, x1), (2, 0, x2), (3, 0, x3), (4, 0, x4), (5, 0, x5), (6, 0, s)] [] (rec_56 s)) (x6 : Int) : hf_J M_X12_layBest 56 [(0, 2, x0), (1, 0, x1), (2, 0, x2), (3, 0, x3), (4, 0, x4), (5, 0, x5), (6, 0, x6)] [] (B_X12_layBest_56 rec_45 x0 x1 x2 x3 x4 x5 rec_56 x6) := by
  refine hf_ild (pc := 56) 6 rfl dX12_layBest_56 ?_
  refine hf_ild (pc := 58) 5 rfl dX12_layBest_58 ?_
  refine hf_iadd (pc := 60) dX12_layBest_60 ?_
  refine hf_ild_n (pc := 61) 3 rfl rfl dX12_layBest_61 ?_
  refine hf_icmp_gt (pc := 62) 133 dX12_layBest_62 rfl ?_ ?_
  · refine hf_iincB (pc := 133) (fun y => [(5, 0, y), (0, 2, x0), (1, 0, x1), (2, 0, x2), (3, 0, x3), (4, 0, x4), (6, 0, x6)]) (q := 5) rfl (by decide) (fun _ => rfl) dX12_layBest_133 (fun x5_133 => ?_)
    refine hf_goto (pc := 136) 45 dX12_layBest_136 rfl ?_
    exact hf_sub [1, 2, 3, 4, 5, 0] rfl (hrec_45 x5_133)
  · refine hf_iconst (pc := 65) dX12_layBest_65 ?_
    refine hf_ist (pc := 66) (lv' := [(7, 0, 0), (0, 2, x0), (1, 0, x1), (2, 0, x2), (3, 0, x3), (4, 0, x4), (5, 0, x5), (6, 0, x6)]) (by decide) rfl dX12_layBest_66 ?_
    exact hf_sub [1, 2, 3, 4, 5, 6, 7, 0] rfl (j_X12_layBest_68 x0 x1 x2 x3 x4 x5 x6 0 rec_45 hrec_45 rec_56 hrec_56)
set_option maxRecDepth 20000 in
theorem j_X12_layBest_56 (x0 x1 x2 x3 x4 x5 x6 : Int) (rec_45 : Int → hf_M Int) (hrec_45 : ∀ s : Int, hf_J M_X12_layBest 45 [(0, 2, x0), (1, 0, x1), (2, 0, x2), (3, 0, x3), (4, 0, x4), (5, 0, s)] [] (rec_45 s)) : hf_J M_X12_layBest 56 [(0, 2, x0), (1, 0, x1), (2, 0, x2), (3, 0, x3), (4, 0, x4), (5, 0, x5), (6, 0, x6)] [] (f_X12_layBest_56 rec_45 x0 x1 x2 x3 x4 x5 x6) :=
  hf_Jfx (L := fun s => [(0, 2, x0), (1, 0, x1), (2, 0, x2), (3, 0, x3), (4, 0, x4), (5, 0, x5), (6, 0, s)]) (fun rec hrec s => jb_X12_layBest_56 x0 x1 x2 x3 x4 x5 rec_45 hrec_45 rec hrec s) hf_N x6
set_option maxRecDepth 20000 in
theorem jb_X12_layBest_45 (x0 x1 x2 x3 x4 : Int) (rec_45 : Int → hf_M Int) (hrec_45 : ∀ s : Int, hf_J M_X12_layBest 45 [(0, 2, x0), (1, 0, x1), (2, 0, x2), (3, 0, x3), (4, 0, x4), (5, 0, s)] [] (rec_45 s)) (x5 : Int) : hf_J M_X12_layBest 45 [(0, 2, x0), (1, 0, x1), (2, 0, x2), (3, 0, x3), (4, 0, x4), (5, 0, x5)] [] (B_X12_layBest_45 x0 x1 x2 x3 x4 rec_45 x5) := by
  refine hf_ild (pc := 45) 5 rfl dX12_layBest_45 ?_
  refine hf_ild_n (pc := 47) 3 rfl rfl dX12_layBest_47 ?_
  refine hf_ild_n (pc := 48) 2 rfl rfl dX12_layBest_48 ?_
  refine hf_isub (pc := 49) dX12_layBest_49 ?_
  refine hf_icmp_gt (pc := 50) 139 dX12_layBest_50 rfl ?_ ?_
  · refine hf_ald_n (pc := 139) 0 rfl rfl dX12_layBest_139 ?_
    refine hf_ild_n (pc := 140) 1 rfl rfl dX12_layBest_140 ?_
    refine hf_ild_n (pc := 141) 2 rfl rfl dX12_layBest_141 ?_
    refine hf_ild_n (pc := 142) 3 rfl rfl dX12_layBest_142 ?_
    refine hf_ild (pc := 143) 4 rfl dX12_layBest_143 ?_
    refine hf_cV (pc := 145) (N := M_X12_bestOf) (ts := [0, 0, 0, 0]) (vs := [x1, x2, x3, x4]) (st := []) (fun r => [(1, r)]) (c_X12_bestOf x0 x1 x2 x3 x4) cal_X12_bestOf ml_X12_361 ⟨hf_le rfl, hf_le rfl⟩ (hf_le rfl) ⟨rfl, rfl⟩ rfl dX12_layBest_145 (fun _ => rfl) (fun v145 => ?_)
    exact hf_Jret (pc := 148) dX12_layBest_148 (fun _ => rfl)
  · refine hf_ild_n (pc := 53) 2 rfl rfl dX12_layBest_53 ?_
    refine hf_ist (pc := 54) (lv' := [(6, 0, x2), (0, 2, x0), (1, 0, x1), (2, 0, x2), (3, 0, x3), (4, 0, x4), (5, 0, x5)]) (by decide) rfl dX12_layBest_54 ?_
    exact hf_sub [1, 2, 3, 4, 5, 6, 0] rfl (j_X12_layBest_56 x0 x1 x2 x3 x4 x5 x2 rec_45 hrec_45)
set_option maxRecDepth 20000 in
theorem j_X12_layBest_45 (x0 x1 x2 x3 x4 x5 : Int) : hf_J M_X12_layBest 45 [(0, 2, x0), (1, 0, x1), (2, 0, x2), (3, 0, x3), (4, 0, x4), (5, 0, x5)] [] (f_X12_layBest_45 x0 x1 x2 x3 x4 x5) :=
  hf_Jfx (L := fun s => [(0, 2, x0), (1, 0, x1), (2, 0, x2), (3, 0, x3), (4, 0, x4), (5, 0, s)]) (fun rec hrec s => jb_X12_layBest_45 x0 x1 x2 x3 x4 rec hrec s) hf_N x5
set_option maxRecDepth 20000 in
theorem jb_X12_layBest_3 (x0 x1 x2 x3 x4 : Int) (rec_3 : Int → hf_M Int) (hrec_3 : ∀ s : Int, hf_J M_X12_layBest 3 [(0, 2, x0), (1, 0, x1), (2, 0, x2), (3, 0, x3), (4, 0, x4), (5, 0, s)] [] (rec_3 s)) (x5 : Int) : hf_J M_X12_layBest 3 [(0, 2, x0), (1, 0, x1), (2, 0, x2), (3, 0, x3), (4, 0, x4), (5, 0, x5)] [] (B_X12_layBest_3 x0 x1 x2 x3 x4 rec_3 x5) := by
  refine hf_ild (pc := 3) 5 rfl dX12_layBest_3 ?_
  refine hf_ald_n (pc := 5) 0 rfl rfl dX12_layBest_5 ?_
  refine hf_getf (pc := 6) fl_X12_13 dX12_layBest_6 (fun v6 => ?_)
  refine hf_icmp_gt (pc := 9) 42 dX12_layBest_9 rfl ?_ ?_
  · refine hf_iconst (pc := 42) dX12_layBest_42 ?_
    refine hf_ist (pc := 43) (lv' := [(5, 0, 0), (0, 2, x0), (1, 0, x1), (2, 0, x2), (3, 0, x3), (4, 0, x4)]) (by decide) rfl dX12_layBest_43 ?_
    exact hf_sub [1, 2, 3, 4, 5, 0] rfl (j_X12_layBest_45 x0 x1 x2 x3 x4 0)
  · refine hf_ald_n (pc := 12) 0 rfl rfl dX12_layBest_12 ?_
    refine hf_getf (pc := 13) fl_X12_88 dX12_layBest_13 (fun v13 => ?_)
    refine hf_ild (pc := 16) 5 rfl dX12_layBest_16 ?_
    refine hf_iconst (pc := 18) dX12_layBest_18 ?_
    refine hf_iadd (pc := 19) dX12_layBest_19 ?_
    refine hf_ald_n (pc := 20) 0 rfl rfl dX12_layBest_20 ?_
    refine hf_getf (pc := 21) fl_X12_88 dX12_layBest_21 (fun v21 => ?_)
    refine hf_ild (pc := 24) 5 rfl dX12_layBest_24 ?_
    refine hf_iald (pc := 26) dX12_layBest_26 (fun v26 => ?_)
    refine hf_ald_n (pc := 27) 0 rfl rfl dX12_layBest_27 ?_
    refine hf_getf (pc := 28) fl_X12_26 dX12_layBest_28 (fun v28 => ?_)
    refine hf_ild (pc := 31) 5 rfl dX12_layBest_31 ?_
    refine hf_iald (pc := 33) dX12_layBest_33 (fun v33 => ?_)
    refine hf_iadd (pc := 34) dX12_layBest_34 ?_
    refine hf_iast (pc := 35) dX12_layBest_35 ?_
    refine hf_iincB (pc := 36) (fun y => [(5, 0, y), (0, 2, x0), (1, 0, x1), (2, 0, x2), (3, 0, x3), (4, 0, x4)]) (q := 5) rfl (by decide) (fun _ => rfl) dX12_layBest_36 (fun x5_36 => ?_)
    refine hf_goto (pc := 39) 3 dX12_layBest_39 rfl ?_
    exact hf_sub [1, 2, 3, 4, 5, 0] rfl (hrec_3 x5_36)
set_option maxRecDepth 20000 in
theorem j_X12_layBest_3 (x0 x1 x2 x3 x4 x5 : Int) : hf_J M_X12_layBest 3 [(0, 2, x0), (1, 0, x1), (2, 0, x2), (3, 0, x3), (4, 0, x4), (5, 0, x5)] [] (f_X12_layBest_3 x0 x1 x2 x3 x4 x5) :=
  hf_Jfx (L := fun s => [(0, 2, x0), (1, 0, x1), (2, 0, x2), (3, 0, x3), (4, 0, x4), (5, 0, s)]) (fun rec hrec s => jb_X12_layBest_3 x0 x1 x2 x3 x4 rec hrec s) hf_N x5
set_option maxRecDepth 20000 in
theorem c_X12_layBest (x0 x1 x2 x3 x4 : Int) : hf_Met M_X12_layBest [2, 0, 0, 0, 0] [x0, x1, x2, x3, x4] (f_X12_layBest x0 x1 x2 x3 x4) := by
  refine hf_met rfl (by decide) (by decide) (by decide) ?_
  show hf_J M_X12_layBest 0 [(0, 2, x0), (1, 0, x1), (2, 0, x2), (3, 0, x3), (4, 0, x4)] [] _
  refine hf_iconst (pc := 0) dX12_layBest_0 ?_
  refine hf_ist (pc := 1) (lv' := [(5, 0, 0), (0, 2, x0), (1, 0, x1), (2, 0, x2), (3, 0, x3), (4, 0, x4)]) (by decide) rfl dX12_layBest_1 ?_
  exact hf_sub [1, 2, 3, 4, 5, 0] rfl (j_X12_layBest_3 x0 x1 x2 x3 x4 0)
/-! HighFallModel.best(I)J -/
def M_X12_best : hf_D := (yX12_best, cX12_best, 4, some .long, 4, 117)
def f_X12_best (x0 x1 : Int) : hf_M Int :=
  hf_bd (hf_pf 12 2 x0 0) (fun _ => hf_bd (f_X12_isIn x1 0 3) (fun v8 => hf_cz v8 (¬ v8 = 0) (hf_bd (hf_gf 12 3 x0) (fun v22 => hf_bd (hf_ob 12 x0 (f_X12_allPieces x0)) (fun v26 => hf_bd (hf_ob 12 x0 (f_X12_layBest x0 x1 0 v22 v26)) (fun v29 => hf_cl v29 1000000000000 (v29 < 1000000000000) (hf_ret v29) (hf_ret (-2)))))) (hf_ret (-1))))
theorem cal_X12_best : hf_cv M_X12_best 12 1 := ⟨⟨ii_X12, kc_X12_best, by decide, by decide, by decide +kernel⟩, ki_X12_best, kv_X12_best, _, rfl, rfl⟩
set_option maxRecDepth 20000 in
theorem c_X12_best (x0 x1 : Int) : hf_Met M_X12_best [2, 0] [x0, x1] (f_X12_best x0 x1) := by
  refine hf_met rfl (by decide) (by decide) (by decide) ?_
  show hf_J M_X12_best 0 [(0, 2, x0), (1, 0, x1)] [] _
  refine hf_ald_n (pc := 0) 0 rfl rfl dX12_best_0 ?_
  refine hf_iconst (pc := 1) dX12_best_1 ?_
  refine hf_putf (pc := 2) fl_X12_127 trivial dX12_best_2 ?_
  refine hf_ild_n (pc := 5) 1 rfl rfl dX12_best_5 ?_
  refine hf_iconst (pc := 6) dX12_best_6 ?_
  refine hf_iconst (pc := 7) dX12_best_7 ?_
  refine hf_cS (pc := 8) (N := M_X12_isIn) (ts := [0, 0, 0]) (vs := [x1, 0, 3]) (st := []) (fun r => [(0, r)]) (c_X12_isIn x1 0 3) cal_X12_isIn ml_X12_133 ⟨hf_le rfl, hf_le rfl⟩ (hf_le rfl) ⟨rfl, rfl⟩ rfl dX12_best_8 (fun _ => rfl) (fun v8 => ?_)
  refine hf_if_ne (pc := 11) 18 dX12_best_11 rfl ?_ ?_
  · refine hf_ald_n (pc := 18) 0 rfl rfl dX12_best_18 ?_
    refine hf_ild_n (pc := 19) 1 rfl rfl dX12_best_19 ?_
    refine hf_iconst (pc := 20) dX12_best_20 ?_
    refine hf_ald_n (pc := 21) 0 rfl rfl dX12_best_21 ?_
    refine hf_getf (pc := 22) fl_X12_13 dX12_best_22 (fun v22 => ?_)
    refine hf_ald_n (pc := 25) 0 rfl rfl dX12_best_25 ?_
    refine hf_cV (pc := 26) (N := M_X12_allPieces) (ts := []) (vs := []) (st := [(0, v22), (0, 0), (0, x1), (2, x0)]) (fun r => [(0, r), (0, v22), (0, 0), (0, x1), (2, x0)]) (c_X12_allPieces x0) cal_X12_allPieces ml_X12_365 ⟨hf_le rfl, hf_le rfl⟩ (hf_le rfl) ⟨rfl, rfl⟩ rfl dX12_best_26 (fun _ => rfl) (fun v26 => ?_)
    refine hf_cV (pc := 29) (N := M_X12_layBest) (ts := [0, 0, 0, 0]) (vs := [x1, 0, v22, v26]) (st := []) (fun r => [(1, r)]) (c_X12_layBest x0 x1 0 v22 v26) cal_X12_layBest ml_X12_368 ⟨hf_le rfl, hf_le rfl⟩ (hf_le rfl) ⟨rfl, rfl⟩ rfl dX12_best_29 (fun _ => rfl) (fun v29 => ?_)
    refine hf_lst_n (pc := 32) (lv' := [(2, 1, v29), (0, 2, x0), (1, 0, x1)]) rfl (by decide) rfl dX12_best_32 ?_
    refine hf_lld_n (pc := 33) 0 rfl rfl dX12_best_33 ?_
    refine hf_ldc2 (pc := 34) (n := 1000000000000) co_X12_278 (by decide) dX12_best_34 ?_
    refine hf_lcm_lt (pc := 37) 47 dX12_best_37 dX12_best_38 rfl ?_ ?_
    · refine hf_lld_n (pc := 47) 0 rfl rfl dX12_best_47 ?_
      exact hf_Jret (pc := 48) dX12_best_48 (fun _ => rfl)
    · refine hf_ldc2 (pc := 41) (n := (-2)) co_X12_330 (by decide) dX12_best_41 ?_
      refine hf_goto (pc := 44) 48 dX12_best_44 rfl ?_
      exact hf_Jret (pc := 48) dX12_best_48 (fun _ => rfl)
  · refine hf_ldc2 (pc := 14) (n := (-1)) co_X12_312 (by decide) dX12_best_14 ?_
    exact hf_Jret (pc := 17) dX12_best_17 (fun _ => rfl)
/-! HighFallModel.next(IIIII)J -/
def M_X12_next : hf_D := (yX12_next, cX12_next, 8, some .long, 4, 117)
def f_X12_next_52 : hf_M Int :=
  hf_ret (-1)
def f_X12_next (x0 x1 x2 x3 x4 x5 : Int) : hf_M Int :=
  hf_bd (hf_pf 12 2 x0 0) (fun _ => hf_bd (f_X12_isIn x1 0 3) (fun v8 => hf_cz v8 (v8 = 0) (f_X12_next_52) (hf_cz x2 (x2 < 0) (f_X12_next_52) (hf_cb x3 x2 (x3 < x2) (f_X12_next_52) (hf_bd (hf_gf 12 3 x0) (fun v25 => hf_cb x3 v25 (v25 < x3) (f_X12_next_52) (hf_bd (f_X12_isIn x4 0 124) (fun v36 => hf_cz v36 (v36 = 0) (f_X12_next_52) (hf_bd (f_X12_isIn x5 0 2) (fun v46 => hf_cz v46 (¬ v46 = 0) (hf_bd (hf_ob 12 x0 (f_X12_layBest x0 x1 x2 x3 x4)) (fun v62 => hf_cb x5 1 (¬ x5 = 1) (hf_cb x5 2 (¬ x5 = 2) (hf_cl v62 1000000000000 (v62 < 1000000000000) (hf_ret v62) (hf_ret (-2))) (hf_bd (hf_gf 12 53 x0) (fun v88 => hf_ck (hf_inI v88) (hf_ret v88)))) (hf_bd (hf_gf 12 52 x0) (fun v74 => hf_ck (hf_inI v74) (hf_ret v74))))) (f_X12_next_52)))))))))))
theorem cal_X12_next : hf_cv M_X12_next 12 5 := ⟨⟨ii_X12, kc_X12_next, by decide, by decide, by decide +kernel⟩, ki_X12_next, kv_X12_next, _, rfl, rfl⟩
set_option maxRecDepth 20000 in
theorem j_X12_next_52 : hf_J M_X12_next 52 [] [] (f_X12_next_52) := by
  refine hf_ldc2 (pc := 52) (n := (-1)) co_X12_312 (by decide) dX12_next_52 ?_
  exact hf_Jret (pc := 55) dX12_next_55 (fun _ => rfl)
set_option maxRecDepth 20000 in
theorem c_X12_next (x0 x1 x2 x3 x4 x5 : Int) : hf_Met M_X12_next [2, 0, 0, 0, 0, 0] [x0, x1, x2, x3, x4, x5] (f_X12_next x0 x1 x2 x3 x4 x5) := by
  refine hf_met rfl (by decide) (by decide) (by decide) ?_
  show hf_J M_X12_next 0 [(0, 2, x0), (1, 0, x1), (2, 0, x2), (3, 0, x3), (4, 0, x4), (5, 0, x5)] [] _
  refine hf_ald_n (pc := 0) 0 rfl rfl dX12_next_0 ?_
  refine hf_iconst (pc := 1) dX12_next_1 ?_
  refine hf_putf (pc := 2) fl_X12_127 trivial dX12_next_2 ?_
  refine hf_ild_n (pc := 5) 1 rfl rfl dX12_next_5 ?_
  refine hf_iconst (pc := 6) dX12_next_6 ?_
  refine hf_iconst (pc := 7) dX12_next_7 ?_
  refine hf_cS (pc := 8) (N := M_X12_isIn) (ts := [0, 0, 0]) (vs := [x1, 0, 3]) (st := []) (fun r => [(0, r)]) (c_X12_isIn x1 0 3) cal_X12_isIn ml_X12_133 ⟨hf_le rfl, hf_le rfl⟩ (hf_le rfl) ⟨rfl, rfl⟩ rfl dX12_next_8 (fun _ => rfl) (fun v8 => ?_)
  refine hf_if_eq (pc := 11) 52 dX12_next_11 rfl ?_ ?_
  · exact hf_sub [] rfl j_X12_next_52
  · refine hf_ild_n (pc := 14) 2 rfl rfl dX12_next_14 ?_
    refine hf_if_lt (pc := 15) 52 dX12_next_15 rfl ?_ ?_
    · exact hf_sub [] rfl j_X12_next_52
    · refine hf_ild_n (pc := 18) 3 rfl rfl dX12_next_18 ?_
      refine hf_ild_n (pc := 19) 2 rfl rfl dX12_next_19 ?_
      refine hf_icmp_lt (pc := 20) 52 dX12_next_20 rfl ?_ ?_
      · exact hf_sub [] rfl j_X12_next_52
      · refine hf_ild_n (pc := 23) 3 rfl rfl dX12_next_23 ?_
        refine hf_ald_n (pc := 24) 0 rfl rfl dX12_next_24 ?_
        refine hf_getf (pc := 25) fl_X12_13 dX12_next_25 (fun v25 => ?_)
        refine hf_icmp_gt (pc := 28) 52 dX12_next_28 rfl ?_ ?_
        · exact hf_sub [] rfl j_X12_next_52
        · refine hf_ild (pc := 31) 4 rfl dX12_next_31 ?_
          refine hf_iconst (pc := 33) dX12_next_33 ?_
          refine hf_bipush (pc := 34) dX12_next_34 (by decide) ?_
          refine hf_cS (pc := 36) (N := M_X12_isIn) (ts := [0, 0, 0]) (vs := [x4, 0, 124]) (st := []) (fun r => [(0, r)]) (c_X12_isIn x4 0 124) cal_X12_isIn ml_X12_133 ⟨hf_le rfl, hf_le rfl⟩ (hf_le rfl) ⟨rfl, rfl⟩ rfl dX12_next_36 (fun _ => rfl) (fun v36 => ?_)
          refine hf_if_eq (pc := 39) 52 dX12_next_39 rfl ?_ ?_
          · exact hf_sub [] rfl j_X12_next_52
          · refine hf_ild (pc := 42) 5 rfl dX12_next_42 ?_
            refine hf_iconst (pc := 44) dX12_next_44 ?_
            refine hf_iconst (pc := 45) dX12_next_45 ?_
            refine hf_cS (pc := 46) (N := M_X12_isIn) (ts := [0, 0, 0]) (vs := [x5, 0, 2]) (st := []) (fun r => [(0, r)]) (c_X12_isIn x5 0 2) cal_X12_isIn ml_X12_133 ⟨hf_le rfl, hf_le rfl⟩ (hf_le rfl) ⟨rfl, rfl⟩ rfl dX12_next_46 (fun _ => rfl) (fun v46 => ?_)
            refine hf_if_ne (pc := 49) 56 dX12_next_49 rfl ?_ ?_
            · refine hf_ald_n (pc := 56) 0 rfl rfl dX12_next_56 ?_
              refine hf_ild_n (pc := 57) 1 rfl rfl dX12_next_57 ?_
              refine hf_ild_n (pc := 58) 2 rfl rfl dX12_next_58 ?_
              refine hf_ild_n (pc := 59) 3 rfl rfl dX12_next_59 ?_
              refine hf_ild (pc := 60) 4 rfl dX12_next_60 ?_
              refine hf_cV (pc := 62) (N := M_X12_layBest) (ts := [0, 0, 0, 0]) (vs := [x1, x2, x3, x4]) (st := []) (fun r => [(1, r)]) (c_X12_layBest x0 x1 x2 x3 x4) cal_X12_layBest ml_X12_368 ⟨hf_le rfl, hf_le rfl⟩ (hf_le rfl) ⟨rfl, rfl⟩ rfl dX12_next_62 (fun _ => rfl) (fun v62 => ?_)
              refine hf_lst (pc := 65) (lv' := [(6, 1, v62), (0, 2, x0), (1, 0, x1), (2, 0, x2), (3, 0, x3), (4, 0, x4), (5, 0, x5)]) (by decide) rfl dX12_next_65 ?_
              refine hf_ild (pc := 67) 6 rfl dX12_next_67 ?_
              refine hf_iconst (pc := 69) dX12_next_69 ?_
              refine hf_icmp_ne (pc := 70) 81 dX12_next_70 rfl ?_ ?_
              · refine hf_ild (pc := 81) 6 rfl dX12_next_81 ?_
                refine hf_iconst (pc := 83) dX12_next_83 ?_
                refine hf_icmp_ne (pc := 84) 95 dX12_next_84 rfl ?_ ?_
                · refine hf_lld (pc := 95) 0 rfl dX12_next_95 ?_
                  refine hf_ldc2 (pc := 97) (n := 1000000000000) co_X12_278 (by decide) dX12_next_97 ?_
                  refine hf_lcm_lt (pc := 100) 110 dX12_next_100 dX12_next_101 rfl ?_ ?_
                  · refine hf_lld (pc := 110) 0 rfl dX12_next_110 ?_
                    exact hf_Jret (pc := 112) dX12_next_112 (fun _ => rfl)
                  · refine hf_ldc2 (pc := 104) (n := (-2)) co_X12_330 (by decide) dX12_next_104 ?_
                    refine hf_goto (pc := 107) 112 dX12_next_107 rfl ?_
                    exact hf_Jret (pc := 112) dX12_next_112 (fun _ => rfl)
                · refine hf_ald_n (pc := 87) 1 rfl rfl dX12_next_87 ?_
                  refine hf_getf (pc := 88) fl_X12_348 dX12_next_88 (fun v88 => ?_)
                  refine hf_i2l (pc := 91) dX12_next_91 ?_
                  refine hf_goto (pc := 92) 112 dX12_next_92 rfl ?_
                  exact hf_Jret (pc := 112) dX12_next_112 (fun _ => rfl)
              · refine hf_ald_n (pc := 73) 1 rfl rfl dX12_next_73 ?_
                refine hf_getf (pc := 74) fl_X12_345 dX12_next_74 (fun v74 => ?_)
                refine hf_i2l (pc := 77) dX12_next_77 ?_
                refine hf_goto (pc := 78) 112 dX12_next_78 rfl ?_
                exact hf_Jret (pc := 112) dX12_next_112 (fun _ => rfl)
            · exact hf_sub [] rfl j_X12_next_52
/-! HighFallModel.edge(II)I -/
def M_X12_edge : hf_D := (yX12_edge, cX12_edge, 10, some .int, 4, 117)
def f_X12_edge_140 (rec_75 : Int × Int → hf_M Int) (x0 x1 x2 x3 x4 x5 x6 x7 : Int) : hf_M Int :=
  hf_bd (hf_ret (x7 + 1)) (fun x7_140 => rec_75 (x6, x7_140))
def f_X12_edge_136 (rec_75 : Int × Int → hf_M Int) (x0 x1 x2 x3 x4 x5 x7 : Int) : hf_M Int :=
  f_X12_edge_140 rec_75 x0 x1 x2 x3 x4 x5 x7 x7
def f_X12_edge_146 (x0 x1 x3 x6 : Int) : hf_M Int :=
  hf_bd (hf_gf 12 6 x0) (fun v147 => hf_bd (hf_as 20 v147 x1 x3) (fun _ => hf_ret x6))
def B_X12_edge_75 (x0 x1 x2 x3 x4 x5 : Int) (rec_75 : Int × Int → hf_M Int) (x6 x7 : Int) : hf_M Int :=
  hf_cb x7 100 (100 ≤ x7) (f_X12_edge_146 x0 x1 x3 x6) (hf_cb x6 100 (¬ x6 = 100) (f_X12_edge_146 x0 x1 x3 x6) (hf_cb x2 1 (x2 ≤ 1) (f_X12_edge_146 x0 x1 x3 x6) (hf_bd (hf_gf 12 6 x0) (fun v95 => hf_bd (hf_as 20 v95 x1 x7) (fun _ => hf_bd (hf_gf 12 3 x0) (fun v106 => hf_bd (hf_ob 12 x0 (f_X12_allPieces x0)) (fun v110 => hf_bd (hf_ob 12 x0 (f_X12_layBest x0 x2 0 v106 v110)) (fun v113 => hf_bd (hf_gf 12 52 x0) (fun v119 => hf_cb v119 x4 (¬ v119 = x4) (f_X12_edge_136 rec_75 x0 x1 x2 x3 x4 x5 x7) (hf_bd (hf_gf 12 53 x0) (fun v128 => hf_cb v128 x5 (v128 = x5) (f_X12_edge_140 rec_75 x0 x1 x2 x3 x4 x5 x6 x7) (f_X12_edge_136 rec_75 x0 x1 x2 x3 x4 x5 x7))))))))))))
def f_X12_edge_75 (x0 x1 x2 x3 x4 x5 x6 x7 : Int) : hf_M Int := hf_fx (fun rec s => B_X12_edge_75 x0 x1 x2 x3 x4 x5 rec s.1 s.2) hf_N (x6, x7)
def f_X12_edge (x0 x1 x2 : Int) : hf_M Int :=
  hf_bd (hf_pf 12 2 x0 0) (fun _ => hf_bd (f_X12_isKind x1) (fun v6 => hf_cz v6 (v6 = 0) (hf_ret (-1)) (hf_bd (f_X12_isIn x2 0 3) (fun v15 => hf_cz v15 (¬ v15 = 0) (hf_bd (hf_gf 12 3 x0) (fun v27 => hf_bd (hf_ob 12 x0 (f_X12_allPieces x0)) (fun v31 => hf_bd (hf_ob 12 x0 (f_X12_layBest x0 x2 0 v27 v31)) (fun v34 => hf_cl v34 1000000000000 (v34 < 1000000000000) (hf_bd (hf_gf 12 6 x0) (fun v48 => hf_bd (hf_al 20 v48 x1) (fun v52 => hf_bd (hf_gf 12 52 x0) (fun v55 => hf_bd (hf_gf 12 53 x0) (fun v61 => hf_bd (hf_ret (v52 + 1)) (fun x7_73 => f_X12_edge_75 x0 x1 x2 v52 v55 v61 100 x7_73)))))) (hf_ret (-2)))))) (hf_ret (-1))))))
theorem cal_X12_edge : hf_cv M_X12_edge 12 2 := ⟨⟨ii_X12, kc_X12_edge, by decide, by decide, by decide +kernel⟩, ki_X12_edge, kv_X12_edge, _, rfl, rfl⟩
set_option maxRecDepth 20000 in
theorem j_X12_edge_140 (x0 x1 x2 x3 x4 x5 x6 x7 : Int) (rec_75 : Int × Int → hf_M Int) (hrec_75 : ∀ s : Int × Int, hf_J M_X12_edge 75 [(0, 2, x0), (1, 0, x1), (2, 0, x2), (3, 0, x3), (4, 0, x4), (5, 0, x5), (6, 0, s.1), (7, 0, s.2)] [] (rec_75 s)) : hf_J M_X12_edge 140 [(0, 2, x0), (1, 0, x1), (2, 0, x2), (3, 0, x3), (4, 0, x4), (5, 0, x5), (6, 0, x6), (7, 0, x7)] [] (f_X12_edge_140 rec_75 x0 x1 x2 x3 x4 x5 x6 x7) := by
  refine hf_iincB (pc := 140) (fun y => [(7, 0, y), (0, 2, x0), (1, 0, x1), (2, 0, x2), (3, 0, x3), (4, 0, x4), (5, 0, x5), (6, 0, x6)]) (q := 7) rfl (by decide) (fun _ => rfl) dX12_edge_140 (fun x7_140 => ?_)
  refine hf_goto (pc := 143) 75 dX12_edge_143 rfl ?_
  exact hf_sub [1, 2, 3, 4, 5, 6, 7, 0] rfl (hrec_75 (x6, x7_140))
set_option maxRecDepth 20000 in
theorem j_X12_edge_136 (x0 x1 x2 x3 x4 x5 x7 : Int) (rec_75 : Int × Int → hf_M Int) (hrec_75 : ∀ s : Int × Int, hf_J M_X12_edge 75 [(0, 2, x0), (1, 0, x1), (2, 0, x2), (3, 0, x3), (4, 0, x4), (5, 0, x5), (6, 0, s.1), (7, 0, s.2)] [] (rec_75 s)) : hf_J M_X12_edge 136 [(0, 2, x0), (1, 0, x1), (2, 0, x2), (3, 0, x3), (4, 0, x4), (5, 0, x5), (7, 0, x7)] [] (f_X12_edge_136 rec_75 x0 x1 x2 x3 x4 x5 x7) := by
  refine hf_ild (pc := 136) 6 rfl dX12_edge_136 ?_
  refine hf_ist (pc := 138) (lv' := [(6, 0, x7), (0, 2, x0), (1, 0, x1), (2, 0, x2), (3, 0, x3), (4, 0, x4), (5, 0, x5), (7, 0, x7)]) (by decide) rfl dX12_edge_138 ?_
  exact hf_sub [1, 2, 3, 4, 5, 6, 0, 7] rfl (j_X12_edge_140 x0 x1 x2 x3 x4 x5 x7 x7 rec_75 hrec_75)
set_option maxRecDepth 20000 in
theorem j_X12_edge_146 (x0 x1 x3 x6 : Int) : hf_J M_X12_edge 146 [(0, 2, x0), (1, 0, x1), (3, 0, x3), (6, 0, x6)] [] (f_X12_edge_146 x0 x1 x3 x6) := by
  refine hf_ald_n (pc := 146) 0 rfl rfl dX12_edge_146 ?_
  refine hf_getf (pc := 147) fl_X12_23 dX12_edge_147 (fun v147 => ?_)
  refine hf_ild_n (pc := 150) 1 rfl rfl dX12_edge_150 ?_
  refine hf_ild_n (pc := 151) 2 rfl rfl dX12_edge_151 ?_
  refine hf_iast (pc := 152) dX12_edge_152 ?_
  refine hf_ild (pc := 153) 3 rfl dX12_edge_153 ?_
  exact hf_Jret (pc := 155) dX12_edge_155 (fun _ => rfl)
set_option maxRecDepth 20000 in
theorem jb_X12_edge_75 (x0 x1 x2 x3 x4 x5 : Int) (rec_75 : Int × Int → hf_M Int) (hrec_75 : ∀ s : Int × Int, hf_J M_X12_edge 75 [(0, 2, x0), (1, 0, x1), (2, 0, x2), (3, 0, x3), (4, 0, x4), (5, 0, x5), (6, 0, s.1), (7, 0, s.2)] [] (rec_75 s)) (x6 x7 : Int) : hf_J M_X12_edge 75 [(0, 2, x0), (1, 0, x1), (2, 0, x2), (3, 0, x3), (4, 0, x4), (5, 0, x5), (6, 0, x6), (7, 0, x7)] [] (B_X12_edge_75 x0 x1 x2 x3 x4 x5 rec_75 x6 x7) := by
  refine hf_ild (pc := 75) 7 rfl dX12_edge_75 ?_
  refine hf_bipush (pc := 77) dX12_edge_77 (by decide) ?_
  refine hf_icmp_ge (pc := 79) 146 dX12_edge_79 rfl ?_ ?_
  · exact hf_sub [0, 1, 3, 6] rfl (j_X12_edge_146 x0 x1 x3 x6)
  · refine hf_ild (pc := 82) 6 rfl dX12_edge_82 ?_
    refine hf_bipush (pc := 84) dX12_edge_84 (by decide) ?_
    refine hf_icmp_ne (pc := 86) 146 dX12_edge_86 rfl ?_ ?_
    · exact hf_sub [0, 1, 3, 6] rfl (j_X12_edge_146 x0 x1 x3 x6)
    · refine hf_ild_n (pc := 89) 2 rfl rfl dX12_edge_89 ?_
      refine hf_iconst (pc := 90) dX12_edge_90 ?_
      refine hf_icmp_le (pc := 91) 146 dX12_edge_91 rfl ?_ ?_
      · exact hf_sub [0, 1, 3, 6] rfl (j_X12_edge_146 x0 x1 x3 x6)
      · refine hf_ald_n (pc := 94) 0 rfl rfl dX12_edge_94 ?_
        refine hf_getf (pc := 95) fl_X12_23 dX12_edge_95 (fun v95 => ?_)
        refine hf_ild_n (pc := 98) 1 rfl rfl dX12_edge_98 ?_
        refine hf_ild (pc := 99) 7 rfl dX12_edge_99 ?_
        refine hf_iast (pc := 101) dX12_edge_101 ?_
        refine hf_ald_n (pc := 102) 0 rfl rfl dX12_edge_102 ?_
        refine hf_ild_n (pc := 103) 2 rfl rfl dX12_edge_103 ?_
        refine hf_iconst (pc := 104) dX12_edge_104 ?_
        refine hf_ald_n (pc := 105) 0 rfl rfl dX12_edge_105 ?_
        refine hf_getf (pc := 106) fl_X12_13 dX12_edge_106 (fun v106 => ?_)
        refine hf_ald_n (pc := 109) 0 rfl rfl dX12_edge_109 ?_
        refine hf_cV (pc := 110) (N := M_X12_allPieces) (ts := []) (vs := []) (st := [(0, v106), (0, 0), (0, x2), (2, x0)]) (fun r => [(0, r), (0, v106), (0, 0), (0, x2), (2, x0)]) (c_X12_allPieces x0) cal_X12_allPieces ml_X12_365 ⟨hf_le rfl, hf_le rfl⟩ (hf_le rfl) ⟨rfl, rfl⟩ rfl dX12_edge_110 (fun _ => rfl) (fun v110 => ?_)
        refine hf_cV (pc := 113) (N := M_X12_layBest) (ts := [0, 0, 0, 0]) (vs := [x2, 0, v106, v110]) (st := []) (fun r => [(1, r)]) (c_X12_layBest x0 x2 0 v106 v110) cal_X12_layBest ml_X12_368 ⟨hf_le rfl, hf_le rfl⟩ (hf_le rfl) ⟨rfl, rfl⟩ rfl dX12_edge_113 (fun _ => rfl) (fun v113 => ?_)
        refine hf_lst (pc := 116) (lv' := [(8, 1, v113), (0, 2, x0), (1, 0, x1), (2, 0, x2), (3, 0, x3), (4, 0, x4), (5, 0, x5), (6, 0, x6), (7, 0, x7)]) (by decide) rfl dX12_edge_116 ?_
        refine hf_ald_n (pc := 118) 1 rfl rfl dX12_edge_118 ?_
        refine hf_getf (pc := 119) fl_X12_345 dX12_edge_119 (fun v119 => ?_)
        refine hf_ild (pc := 122) 5 rfl dX12_edge_122 ?_
        refine hf_icmp_ne (pc := 124) 136 dX12_edge_124 rfl ?_ ?_
        · exact hf_sub [1, 2, 3, 4, 5, 6, 8] rfl (j_X12_edge_136 x0 x1 x2 x3 x4 x5 x7 rec_75 hrec_75)
        · refine hf_ald_n (pc := 127) 1 rfl rfl dX12_edge_127 ?_
          refine hf_getf (pc := 128) fl_X12_348 dX12_edge_128 (fun v128 => ?_)
          refine hf_ild (pc := 131) 6 rfl dX12_edge_131 ?_
          refine hf_icmp_eq (pc := 133) 140 dX12_edge_133 rfl ?_ ?_
          · exact hf_sub [1, 2, 3, 4, 5, 6, 7, 8] rfl (j_X12_edge_140 x0 x1 x2 x3 x4 x5 x6 x7 rec_75 hrec_75)
          · exact hf_sub [1, 2, 3, 4, 5, 6, 8] rfl (j_X12_edge_136 x0 x1 x2 x3 x4 x5 x7 rec_75 hrec_75)
set_option maxRecDepth 20000 in
theorem j_X12_edge_75 (x0 x1 x2 x3 x4 x5 x6 x7 : Int) : hf_J M_X12_edge 75 [(0, 2, x0), (1, 0, x1), (2, 0, x2), (3, 0, x3), (4, 0, x4), (5, 0, x5), (6, 0, x6), (7, 0, x7)] [] (f_X12_edge_75 x0 x1 x2 x3 x4 x5 x6 x7) :=
  hf_Jfx (L := fun s => [(0, 2, x0), (1, 0, x1), (2, 0, x2), (3, 0, x3), (4, 0, x4), (5, 0, x5), (6, 0, s.1), (7, 0, s.2)]) (fun rec hrec s => jb_X12_edge_75 x0 x1 x2 x3 x4 x5 rec hrec s.1 s.2) hf_N (x6, x7)
set_option maxRecDepth 20000 in
theorem c_X12_edge (x0 x1 x2 : Int) : hf_Met M_X12_edge [2, 0, 0] [x0, x1, x2] (f_X12_edge x0 x1 x2) := by
  refine hf_met rfl (by decide) (by decide) (by decide) ?_
  show hf_J M_X12_edge 0 [(0, 2, x0), (1, 0, x1), (2, 0, x2)] [] _
  refine hf_ald_n (pc := 0) 0 rfl rfl dX12_edge_0 ?_
  refine hf_iconst (pc := 1) dX12_edge_1 ?_
  refine hf_putf (pc := 2) fl_X12_127 trivial dX12_edge_2 ?_
  refine hf_ild_n (pc := 5) 1 rfl rfl dX12_edge_5 ?_
  refine hf_cS (pc := 6) (N := M_X12_isKind) (ts := [0]) (vs := [x1]) (st := []) (fun r => [(0, r)]) (c_X12_isKind x1) cal_X12_isKind ml_X12_144 ⟨hf_le rfl, hf_le rfl⟩ (hf_le rfl) ⟨rfl, rfl⟩ rfl dX12_edge_6 (fun _ => rfl) (fun v6 => ?_)
  refine hf_if_eq (pc := 9) 21 dX12_edge_9 rfl ?_ ?_
  · refine hf_iconst (pc := 21) dX12_edge_21 ?_
    exact hf_Jret (pc := 22) dX12_edge_22 (fun _ => rfl)
  · refine hf_ild_n (pc := 12) 2 rfl rfl dX12_edge_12 ?_
    refine hf_iconst (pc := 13) dX12_edge_13 ?_
    refine hf_iconst (pc := 14) dX12_edge_14 ?_
    refine hf_cS (pc := 15) (N := M_X12_isIn) (ts := [0, 0, 0]) (vs := [x2, 0, 3]) (st := []) (fun r => [(0, r)]) (c_X12_isIn x2 0 3) cal_X12_isIn ml_X12_133 ⟨hf_le rfl, hf_le rfl⟩ (hf_le rfl) ⟨rfl, rfl⟩ rfl dX12_edge_15 (fun _ => rfl) (fun v15 => ?_)
    refine hf_if_ne (pc := 18) 23 dX12_edge_18 rfl ?_ ?_
    · refine hf_ald_n (pc := 23) 0 rfl rfl dX12_edge_23 ?_
      refine hf_ild_n (pc := 24) 2 rfl rfl dX12_edge_24 ?_
      refine hf_iconst (pc := 25) dX12_edge_25 ?_
      refine hf_ald_n (pc := 26) 0 rfl rfl dX12_edge_26 ?_
      refine hf_getf (pc := 27) fl_X12_13 dX12_edge_27 (fun v27 => ?_)
      refine hf_ald_n (pc := 30) 0 rfl rfl dX12_edge_30 ?_
      refine hf_cV (pc := 31) (N := M_X12_allPieces) (ts := []) (vs := []) (st := [(0, v27), (0, 0), (0, x2), (2, x0)]) (fun r => [(0, r), (0, v27), (0, 0), (0, x2), (2, x0)]) (c_X12_allPieces x0) cal_X12_allPieces ml_X12_365 ⟨hf_le rfl, hf_le rfl⟩ (hf_le rfl) ⟨rfl, rfl⟩ rfl dX12_edge_31 (fun _ => rfl) (fun v31 => ?_)
      refine hf_cV (pc := 34) (N := M_X12_layBest) (ts := [0, 0, 0, 0]) (vs := [x2, 0, v27, v31]) (st := []) (fun r => [(1, r)]) (c_X12_layBest x0 x2 0 v27 v31) cal_X12_layBest ml_X12_368 ⟨hf_le rfl, hf_le rfl⟩ (hf_le rfl) ⟨rfl, rfl⟩ rfl dX12_edge_34 (fun _ => rfl) (fun v34 => ?_)
      refine hf_ldc2 (pc := 37) (n := 1000000000000) co_X12_278 (by decide) dX12_edge_37 ?_
      refine hf_lcm_lt (pc := 40) 47 dX12_edge_40 dX12_edge_41 rfl ?_ ?_
      · refine hf_ald_n (pc := 47) 0 rfl rfl dX12_edge_47 ?_
        refine hf_getf (pc := 48) fl_X12_23 dX12_edge_48 (fun v48 => ?_)
        refine hf_ild_n (pc := 51) 1 rfl rfl dX12_edge_51 ?_
        refine hf_iald (pc := 52) dX12_edge_52 (fun v52 => ?_)
        refine hf_ist_n (pc := 53) (lv' := [(3, 0, v52), (0, 2, x0), (1, 0, x1), (2, 0, x2)]) rfl (by decide) rfl dX12_edge_53 ?_
        refine hf_ald_n (pc := 54) 1 rfl rfl dX12_edge_54 ?_
        refine hf_getf (pc := 55) fl_X12_345 dX12_edge_55 (fun v55 => ?_)
        refine hf_ist (pc := 58) (lv' := [(4, 0, v55), (3, 0, v52), (0, 2, x0), (1, 0, x1), (2, 0, x2)]) (by decide) rfl dX12_edge_58 ?_
        refine hf_ald_n (pc := 60) 2 rfl rfl dX12_edge_60 ?_
        refine hf_getf (pc := 61) fl_X12_348 dX12_edge_61 (fun v61 => ?_)
        refine hf_ist (pc := 64) (lv' := [(5, 0, v61), (4, 0, v55), (3, 0, v52), (0, 2, x0), (1, 0, x1), (2, 0, x2)]) (by decide) rfl dX12_edge_64 ?_
        refine hf_bipush (pc := 66) dX12_edge_66 (by decide) ?_
        refine hf_ist (pc := 68) (lv' := [(6, 0, 100), (5, 0, v61), (4, 0, v55), (3, 0, v52), (0, 2, x0), (1, 0, x1), (2, 0, x2)]) (by decide) rfl dX12_edge_68 ?_
        refine hf_ild_n (pc := 70) 3 rfl rfl dX12_edge_70 ?_
        refine hf_iconst (pc := 71) dX12_edge_71 ?_
        refine hf_iadd (pc := 72) dX12_edge_72 ?_
        refine hf_istB (pc := 73) (fun y => [(7, 0, y), (6, 0, 100), (5, 0, v61), (4, 0, v55), (3, 0, v52), (0, 2, x0), (1, 0, x1), (2, 0, x2)]) (by decide) (fun _ => rfl) dX12_edge_73 (fun x7_73 => ?_)
        exact hf_sub [5, 6, 7, 4, 3, 2, 1, 0] rfl (j_X12_edge_75 x0 x1 x2 v52 v55 v61 100 x7_73)
      · refine hf_bipush (pc := 44) dX12_edge_44 (by decide) ?_
        exact hf_Jret (pc := 46) dX12_edge_46 (fun _ => rfl)
    · refine hf_iconst (pc := 21) dX12_edge_21 ?_
      exact hf_Jret (pc := 22) dX12_edge_22 (fun _ => rfl)
/-! HighFallModel.weakAt(IIII)I -/
def M_X12_weakAt : hf_D := (yX12_weakAt, cX12_weakAt, 5, some .int, 0, 0)
def f_X12_weakAt (x0 x1 x2 x3 x4 : Int) : hf_M Int :=
  hf_cb x1 x2 (¬ x1 = x2) (hf_cz x4 (¬ x4 = 0) (hf_bd (hf_gf 12 54 x0) (fun v21 => hf_bd (hf_al 20 v21 ((5 * ((41 * ((41 * x1) + x2)) + x3)) + x4)) (fun v40 => hf_ret v40))) (hf_ret 1000000)) (hf_ret 0)
theorem cal_X12_weakAt : hf_cv M_X12_weakAt 12 4 := ⟨⟨ii_X12, kc_X12_weakAt, by decide, by decide, by decide +kernel⟩, ki_X12_weakAt, kv_X12_weakAt, _, rfl, rfl⟩
set_option maxRecDepth 20000 in
theorem c_X12_weakAt (x0 x1 x2 x3 x4 : Int) : hf_Met M_X12_weakAt [2, 0, 0, 0, 0] [x0, x1, x2, x3, x4] (f_X12_weakAt x0 x1 x2 x3 x4) := by
  refine hf_met rfl (by decide) (by decide) (by decide) ?_
  show hf_J M_X12_weakAt 0 [(0, 2, x0), (1, 0, x1), (2, 0, x2), (3, 0, x3), (4, 0, x4)] [] _
  refine hf_ild_n (pc := 0) 1 rfl rfl dX12_weakAt_0 ?_
  refine hf_ild_n (pc := 1) 2 rfl rfl dX12_weakAt_1 ?_
  refine hf_icmp_ne (pc := 2) 9 dX12_weakAt_2 rfl ?_ ?_
  · refine hf_ild (pc := 9) 4 rfl dX12_weakAt_9 ?_
    refine hf_if_ne (pc := 11) 20 dX12_weakAt_11 rfl ?_ ?_
    · refine hf_ald_n (pc := 20) 0 rfl rfl dX12_weakAt_20 ?_
      refine hf_getf (pc := 21) fl_X12_92 dX12_weakAt_21 (fun v21 => ?_)
      refine hf_iconst (pc := 24) dX12_weakAt_24 ?_
      refine hf_bipush (pc := 25) dX12_weakAt_25 (by decide) ?_
      refine hf_bipush (pc := 27) dX12_weakAt_27 (by decide) ?_
      refine hf_ild_n (pc := 29) 1 rfl rfl dX12_weakAt_29 ?_
      refine hf_imul (pc := 30) dX12_weakAt_30 ?_
      refine hf_ild_n (pc := 31) 2 rfl rfl dX12_weakAt_31 ?_
      refine hf_iadd (pc := 32) dX12_weakAt_32 ?_
      refine hf_imul (pc := 33) dX12_weakAt_33 ?_
      refine hf_ild_n (pc := 34) 3 rfl rfl dX12_weakAt_34 ?_
      refine hf_iadd (pc := 35) dX12_weakAt_35 ?_
      refine hf_imul (pc := 36) dX12_weakAt_36 ?_
      refine hf_ild (pc := 37) 4 rfl dX12_weakAt_37 ?_
      refine hf_iadd (pc := 39) dX12_weakAt_39 ?_
      refine hf_iald (pc := 40) dX12_weakAt_40 (fun v40 => ?_)
      exact hf_Jret (pc := 41) dX12_weakAt_41 (fun _ => rfl)
    · refine hf_ldcw (pc := 14) (n := 1000000) co_X12_371 (by decide) dX12_weakAt_14 ?_
      refine hf_goto (pc := 17) 41 dX12_weakAt_17 rfl ?_
      exact hf_Jret (pc := 41) dX12_weakAt_41 (fun _ => rfl)
  · refine hf_iconst (pc := 5) dX12_weakAt_5 ?_
    refine hf_goto (pc := 6) 41 dX12_weakAt_6 rfl ?_
    exact hf_Jret (pc := 41) dX12_weakAt_41 (fun _ => rfl)
/-! HighFallModel.weakBest(IIIII)I -/
def M_X12_weakBest : hf_D := (yX12_weakBest, cX12_weakBest, 12, some .int, 1, 24)
def f_X12_weakBest_132 (rec_28 : Int × Int → hf_M Int) (x0 x1 x2 x3 x4 x5 x6 x7 : Int) : hf_M Int :=
  hf_bd (hf_ret (x7 + 1)) (fun x7_132 => rec_28 (x6, x7_132))
def B_X12_weakBest_28 (x0 x1 x2 x3 x4 x5 : Int) (rec_28 : Int × Int → hf_M Int) (x6 x7 : Int) : hf_M Int :=
  hf_bd (hf_gf 12 3 x0) (fun v31 => hf_cb x7 v31 (v31 < x7) (hf_cb x6 1000000 (x6 ≤ 1000000) (hf_ret x6) (hf_ret 1000000)) (hf_bd (hf_gf 12 4 x0) (fun v40 => hf_bd (hf_al 20 v40 0) (fun v44 => hf_bd (hf_ret ((x7 - v44) + (x5 * x3))) (fun x8_51 => hf_cb x8_51 x1 (x8_51 ≤ x1) (f_X12_weakBest_132 rec_28 x0 x1 x2 x3 x4 x5 x6 x7) (hf_cb x8_51 x2 (x8_51 ≤ x2) (hf_bd (hf_ob 12 x0 (f_X12_weakAt x0 x8_51 x2 (x3 + 1) x4)) (fun v77 => hf_bd (hf_ob 12 x0 (f_X12_weakAt x0 x1 (x8_51 - 1) 0 (x4 - 1))) (fun v93 => hf_ck (hf_inI v77 ∧ hf_inI v93) (hf_bd (hf_ret (if v77 ≤ v93 then v93 else v77)) (fun w113 => hf_bd (hf_ret (1 + w113)) (fun x11_114 => hf_ck (hf_inI x11_114 ∧ hf_inI x6) (hf_bd (hf_ret (if x6 ≤ x11_114 then x6 else x11_114)) (fun w130 => f_X12_weakBest_132 rec_28 x0 x1 x2 x3 x4 x5 w130 x7)))))))) (f_X12_weakBest_132 rec_28 x0 x1 x2 x3 x4 x5 x6 x7)))))))
def f_X12_weakBest_28 (x0 x1 x2 x3 x4 x5 x6 x7 : Int) : hf_M Int := hf_fx (fun rec s => B_X12_weakBest_28 x0 x1 x2 x3 x4 x5 rec s.1 s.2) hf_N (x6, x7)
def f_X12_weakBest_23 (x0 x1 x2 x3 x4 x5 s0 : Int) : hf_M Int :=
  f_X12_weakBest_28 x0 x1 x2 x3 x4 x5 s0 1
def f_X12_weakBest (x0 x1 x2 x3 x4 x5 : Int) : hf_M Int :=
  hf_cb x4 1 (x4 ≤ 1) (f_X12_weakBest_23 x0 x1 x2 x3 x4 x5 1000000) (hf_bd (hf_ob 12 x0 (f_X12_weakAt x0 x1 x2 0 (x4 - 1))) (fun v14 => f_X12_weakBest_23 x0 x1 x2 x3 x4 x5 v14))
theorem cal_X12_weakBest : hf_cv M_X12_weakBest 12 5 := ⟨⟨ii_X12, kc_X12_weakBest, by decide, by decide, by decide +kernel⟩, ki_X12_weakBest, kv_X12_weakBest, _, rfl, rfl⟩
set_option maxRecDepth 20000 in
theorem j_X12_weakBest_132 (x0 x1 x2 x3 x4 x5 x6 x7 : Int) (rec_28 : Int × Int → hf_M Int) (hrec_28 : ∀ s : Int × Int, hf_J M_X12_weakBest 28 [(0, 2, x0), (1, 0, x1), (2, 0, x2), (3, 0, x3), (4, 0, x4), (5, 0, x5), (6, 0, s.1), (7, 0, s.2)] [] (rec_28 s)) : hf_J M_X12_weakBest 132 [(0, 2, x0), (1, 0, x1), (2, 0, x2), (3, 0, x3), (4, 0, x4), (5, 0, x5), (6, 0, x6), (7, 0, x7)] [] (f_X12_weakBest_132 rec_28 x0 x1 x2 x3 x4 x5 x6 x7) := by
  refine hf_iincB (pc := 132) (fun y => [(7, 0, y), (0, 2, x0), (1, 0, x1), (2, 0, x2), (3, 0, x3), (4, 0, x4), (5, 0, x5), (6, 0, x6)]) (q := 7) rfl (by decide) (fun _ => rfl) dX12_weakBest_132 (fun x7_132 => ?_)
  refine hf_goto (pc := 135) 28 dX12_weakBest_135 rfl ?_
  exact hf_sub [1, 2, 3, 4, 5, 6, 7, 0] rfl (hrec_28 (x6, x7_132))
set_option maxRecDepth 20000 in
theorem jb_X12_weakBest_28 (x0 x1 x2 x3 x4 x5 : Int) (rec_28 : Int × Int → hf_M Int) (hrec_28 : ∀ s : Int × Int, hf_J M_X12_weakBest 28 [(0, 2, x0), (1, 0, x1), (2, 0, x2), (3, 0, x3), (4, 0, x4), (5, 0, x5), (6, 0, s.1), (7, 0, s.2)] [] (rec_28 s)) (x6 x7 : Int) : hf_J M_X12_weakBest 28 [(0, 2, x0), (1, 0, x1), (2, 0, x2), (3, 0, x3), (4, 0, x4), (5, 0, x5), (6, 0, x6), (7, 0, x7)] [] (B_X12_weakBest_28 x0 x1 x2 x3 x4 x5 rec_28 x6 x7) := by
  refine hf_ild (pc := 28) 7 rfl dX12_weakBest_28 ?_
  refine hf_ald_n (pc := 30) 0 rfl rfl dX12_weakBest_30 ?_
  refine hf_getf (pc := 31) fl_X12_13 dX12_weakBest_31 (fun v31 => ?_)
  refine hf_icmp_gt (pc := 34) 138 dX12_weakBest_34 rfl ?_ ?_
  · refine hf_ild (pc := 138) 6 rfl dX12_weakBest_138 ?_
    refine hf_ldcw (pc := 140) (n := 1000000) co_X12_371 (by decide) dX12_weakBest_140 ?_
    refine hf_icmp_le (pc := 143) 152 dX12_weakBest_143 rfl ?_ ?_
    · refine hf_ild (pc := 152) 6 rfl dX12_weakBest_152 ?_
      exact hf_Jret (pc := 154) dX12_weakBest_154 (fun _ => rfl)
    · refine hf_ldcw (pc := 146) (n := 1000000) co_X12_371 (by decide) dX12_weakBest_146 ?_
      refine hf_goto (pc := 149) 154 dX12_weakBest_149 rfl ?_
      exact hf_Jret (pc := 154) dX12_weakBest_154 (fun _ => rfl)
  · refine hf_ild (pc := 37) 7 rfl dX12_weakBest_37 ?_
    refine hf_ald_n (pc := 39) 0 rfl rfl dX12_weakBest_39 ?_
    refine hf_getf (pc := 40) fl_X12_17 dX12_weakBest_40 (fun v40 => ?_)
    refine hf_iconst (pc := 43) dX12_weakBest_43 ?_
    refine hf_iald (pc := 44) dX12_weakBest_44 (fun v44 => ?_)
    refine hf_isub (pc := 45) dX12_weakBest_45 ?_
    refine hf_ild (pc := 46) 5 rfl dX12_weakBest_46 ?_
    refine hf_ild_n (pc := 48) 3 rfl rfl dX12_weakBest_48 ?_
    refine hf_imul (pc := 49) dX12_weakBest_49 ?_
    refine hf_iadd (pc := 50) dX12_weakBest_50 ?_
    refine hf_istB (pc := 51) (fun y => [(8, 0, y), (0, 2, x0), (1, 0, x1), (2, 0, x2), (3, 0, x3), (4, 0, x4), (5, 0, x5), (6, 0, x6), (7, 0, x7)]) (by decide) (fun _ => rfl) dX12_weakBest_51 (fun x8_51 => ?_)
    refine hf_ild (pc := 53) 0 rfl dX12_weakBest_53 ?_
    refine hf_ild_n (pc := 55) 2 rfl rfl dX12_weakBest_55 ?_
    refine hf_icmp_le (pc := 56) 132 dX12_weakBest_56 rfl ?_ ?_
    · exact hf_sub [1, 2, 3, 4, 5, 6, 7, 8] rfl (j_X12_weakBest_132 x0 x1 x2 x3 x4 x5 x6 x7 rec_28 hrec_28)
    · refine hf_ild (pc := 59) 0 rfl dX12_weakBest_59 ?_
      refine hf_ild_n (pc := 61) 3 rfl rfl dX12_weakBest_61 ?_
      refine hf_icmp_le (pc := 62) 68 dX12_weakBest_62 rfl ?_ ?_
      · refine hf_ald_n (pc := 68) 1 rfl rfl dX12_weakBest_68 ?_
        refine hf_ild (pc := 69) 0 rfl dX12_weakBest_69 ?_
        refine hf_ild_n (pc := 71) 3 rfl rfl dX12_weakBest_71 ?_
        refine hf_ild_n (pc := 72) 4 rfl rfl dX12_weakBest_72 ?_
        refine hf_iconst (pc := 73) dX12_weakBest_73 ?_
        refine hf_iadd (pc := 74) dX12_weakBest_74 ?_
        refine hf_ild (pc := 75) 5 rfl dX12_weakBest_75 ?_
        refine hf_cV (pc := 77) (N := M_X12_weakAt) (ts := [0, 0, 0, 0]) (vs := [x8_51, x2, (x3 + 1), x4]) (st := []) (fun r => [(0, r)]) (c_X12_weakAt x0 x8_51 x2 (x3 + 1) x4) cal_X12_weakAt ml_X12_372 ⟨hf_le rfl, hf_le rfl⟩ (hf_le rfl) ⟨rfl, rfl⟩ rfl dX12_weakBest_77 (fun _ => rfl) (fun v77 => ?_)
        refine hf_ist (pc := 80) (lv' := [(9, 0, v77), (8, 0, x8_51), (0, 2, x0), (1, 0, x1), (2, 0, x2), (3, 0, x3), (4, 0, x4), (5, 0, x5), (6, 0, x6), (7, 0, x7)]) (by decide) rfl dX12_weakBest_80 ?_
        refine hf_ald_n (pc := 82) 2 rfl rfl dX12_weakBest_82 ?_
        refine hf_ild_n (pc := 83) 3 rfl rfl dX12_weakBest_83 ?_
        refine hf_ild (pc := 84) 1 rfl dX12_weakBest_84 ?_
        refine hf_iconst (pc := 86) dX12_weakBest_86 ?_
        refine hf_isub (pc := 87) dX12_weakBest_87 ?_
        refine hf_iconst (pc := 88) dX12_weakBest_88 ?_
        refine hf_ild (pc := 89) 6 rfl dX12_weakBest_89 ?_
        refine hf_iconst (pc := 91) dX12_weakBest_91 ?_
        refine hf_isub (pc := 92) dX12_weakBest_92 ?_
        refine hf_cV (pc := 93) (N := M_X12_weakAt) (ts := [0, 0, 0, 0]) (vs := [x1, (x8_51 - 1), 0, (x4 - 1)]) (st := []) (fun r => [(0, r)]) (c_X12_weakAt x0 x1 (x8_51 - 1) 0 (x4 - 1)) cal_X12_weakAt ml_X12_372 ⟨hf_le rfl, hf_le rfl⟩ (hf_le rfl) ⟨rfl, rfl⟩ rfl dX12_weakBest_93 (fun _ => rfl) (fun v93 => ?_)
        refine hf_ist (pc := 96) (lv' := [(10, 0, v93), (9, 0, v77), (8, 0, x8_51), (0, 2, x0), (1, 0, x1), (2, 0, x2), (3, 0, x3), (4, 0, x4), (5, 0, x5), (6, 0, x6), (7, 0, x7)]) (by decide) rfl dX12_weakBest_96 ?_
        refine hf_iconst (pc := 98) dX12_weakBest_98 ?_
        refine hf_ild (pc := 99) 1 rfl dX12_weakBest_99 ?_
        refine hf_ild (pc := 101) 0 rfl dX12_weakBest_101 ?_
        refine hf_Jdib (pc := 103) (pcM := 113) (t := 0) (stM := [(0, 1)]) (fun w113 => ?_) (fun a1 a2 => ?_)
        · refine hf_iadd (pc := 113) dX12_weakBest_113 ?_
          refine hf_istB (pc := 114) (fun y => [(11, 0, y), (10, 0, v93), (9, 0, v77), (8, 0, x8_51), (0, 2, x0), (1, 0, x1), (2, 0, x2), (3, 0, x3), (4, 0, x4), (5, 0, x5), (6, 0, x6), (7, 0, x7)]) (by decide) (fun _ => rfl) dX12_weakBest_114 (fun x11_114 => ?_)
          refine hf_ild (pc := 116) 0 rfl dX12_weakBest_116 ?_
          refine hf_ild (pc := 118) 10 rfl dX12_weakBest_118 ?_
          refine hf_Jdib (pc := 120) (pcM := 130) (t := 0) (stM := []) (fun w130 => ?_) (fun a1 a2 => ?_)
          · refine hf_ist (pc := 130) (lv' := [(6, 0, w130), (11, 0, x11_114), (10, 0, v93), (9, 0, v77), (8, 0, x8_51), (0, 2, x0), (1, 0, x1), (2, 0, x2), (3, 0, x3), (4, 0, x4), (5, 0, x5), (7, 0, x7)]) (by decide) rfl dX12_weakBest_130 ?_
            exact hf_sub [5, 6, 7, 8, 9, 10, 0, 11] rfl (j_X12_weakBest_132 x0 x1 x2 x3 x4 x5 w130 x7 rec_28 hrec_28)
          · refine hf_icmp_ge (pc := 120) 128 dX12_weakBest_120 rfl ?_ ?_
            · refine hf_ild (pc := 128) 10 rfl dX12_weakBest_128 ?_
              exact a1
            · refine hf_ild (pc := 123) 0 rfl dX12_weakBest_123 ?_
              refine hf_goto (pc := 125) 130 dX12_weakBest_125 rfl ?_
              exact a2
        · refine hf_icmp_le (pc := 103) 111 dX12_weakBest_103 rfl ?_ ?_
          · refine hf_ild (pc := 111) 0 rfl dX12_weakBest_111 ?_
            exact a1
          · refine hf_ild (pc := 106) 1 rfl dX12_weakBest_106 ?_
            refine hf_goto (pc := 108) 113 dX12_weakBest_108 rfl ?_
            exact a2
      · refine hf_goto (pc := 65) 132 dX12_weakBest_65 rfl ?_
        exact hf_sub [1, 2, 3, 4, 5, 6, 7, 8] rfl (j_X12_weakBest_132 x0 x1 x2 x3 x4 x5 x6 x7 rec_28 hrec_28)
set_option maxRecDepth 20000 in
theorem j_X12_weakBest_28 (x0 x1 x2 x3 x4 x5 x6 x7 : Int) : hf_J M_X12_weakBest 28 [(0, 2, x0), (1, 0, x1), (2, 0, x2), (3, 0, x3), (4, 0, x4), (5, 0, x5), (6, 0, x6), (7, 0, x7)] [] (f_X12_weakBest_28 x0 x1 x2 x3 x4 x5 x6 x7) :=
  hf_Jfx (L := fun s => [(0, 2, x0), (1, 0, x1), (2, 0, x2), (3, 0, x3), (4, 0, x4), (5, 0, x5), (6, 0, s.1), (7, 0, s.2)]) (fun rec hrec s => jb_X12_weakBest_28 x0 x1 x2 x3 x4 x5 rec hrec s.1 s.2) hf_N (x6, x7)
set_option maxRecDepth 20000 in
theorem j_X12_weakBest_23 (x0 x1 x2 x3 x4 x5 s0 : Int) : hf_J M_X12_weakBest 23 [(0, 2, x0), (1, 0, x1), (2, 0, x2), (3, 0, x3), (4, 0, x4), (5, 0, x5)] [(0, s0)] (f_X12_weakBest_23 x0 x1 x2 x3 x4 x5 s0) := by
  refine hf_ist (pc := 23) (lv' := [(6, 0, s0), (0, 2, x0), (1, 0, x1), (2, 0, x2), (3, 0, x3), (4, 0, x4), (5, 0, x5)]) (by decide) rfl dX12_weakBest_23 ?_
  refine hf_iconst (pc := 25) dX12_weakBest_25 ?_
  refine hf_ist (pc := 26) (lv' := [(7, 0, 1), (6, 0, s0), (0, 2, x0), (1, 0, x1), (2, 0, x2), (3, 0, x3), (4, 0, x4), (5, 0, x5)]) (by decide) rfl dX12_weakBest_26 ?_
  exact hf_sub [2, 3, 4, 5, 6, 7, 1, 0] rfl (j_X12_weakBest_28 x0 x1 x2 x3 x4 x5 s0 1)
set_option maxRecDepth 20000 in
theorem c_X12_weakBest (x0 x1 x2 x3 x4 x5 : Int) : hf_Met M_X12_weakBest [2, 0, 0, 0, 0, 0] [x0, x1, x2, x3, x4, x5] (f_X12_weakBest x0 x1 x2 x3 x4 x5) := by
  refine hf_met rfl (by decide) (by decide) (by decide) ?_
  show hf_J M_X12_weakBest 0 [(0, 2, x0), (1, 0, x1), (2, 0, x2), (3, 0, x3), (4, 0, x4), (5, 0, x5)] [] _
  refine hf_ild (pc := 0) 4 rfl dX12_weakBest_0 ?_
  refine hf_iconst (pc := 2) dX12_weakBest_2 ?_
  refine hf_icmp_le (pc := 3) 20 dX12_weakBest_3 rfl ?_ ?_
  · refine hf_ldcw (pc := 20) (n := 1000000) co_X12_371 (by decide) dX12_weakBest_20 ?_
    exact hf_sub [0, 1, 2, 3, 4, 5] rfl (j_X12_weakBest_23 x0 x1 x2 x3 x4 x5 1000000)
  · refine hf_ald_n (pc := 6) 0 rfl rfl dX12_weakBest_6 ?_
    refine hf_ild_n (pc := 7) 1 rfl rfl dX12_weakBest_7 ?_
    refine hf_ild_n (pc := 8) 2 rfl rfl dX12_weakBest_8 ?_
    refine hf_iconst (pc := 9) dX12_weakBest_9 ?_
    refine hf_ild (pc := 10) 4 rfl dX12_weakBest_10 ?_
    refine hf_iconst (pc := 12) dX12_weakBest_12 ?_
    refine hf_isub (pc := 13) dX12_weakBest_13 ?_
    refine hf_cV (pc := 14) (N := M_X12_weakAt) (ts := [0, 0, 0, 0]) (vs := [x1, x2, 0, (x4 - 1)]) (st := []) (fun r => [(0, r)]) (c_X12_weakAt x0 x1 x2 0 (x4 - 1)) cal_X12_weakAt ml_X12_372 ⟨hf_le rfl, hf_le rfl⟩ (hf_le rfl) ⟨rfl, rfl⟩ rfl dX12_weakBest_14 (fun _ => rfl) (fun v14 => ?_)
    refine hf_goto (pc := 17) 23 dX12_weakBest_17 rfl ?_
    exact hf_sub [0, 1, 2, 3, 4, 5] rfl (j_X12_weakBest_23 x0 x1 x2 x3 x4 x5 v14)
/-! HighFallModel.weak(II)I -/
def M_X12_weak : hf_D := (yX12_weak, cX12_weak, 7, some .int, 2, 55)
def B_X12_weak_61 (rec_27 : Int → hf_M Int) (rec_38 : Int → hf_M Int) (rec_52 : Int → hf_M Int) (x0 x1 x2 x3 x4 x5 : Int) (rec_61 : Int → hf_M Int) (x6 : Int) : hf_M Int :=
  hf_bd (hf_gf 12 3 x0) (fun v64 => hf_cb x6 (v64 - x3) ((v64 - x3) < x6) (hf_bd (hf_ret (x5 + 1)) (fun x5_119 => rec_52 x5_119)) (hf_bd (hf_gf 12 54 x0) (fun v73 => hf_bd (hf_ob 12 x0 (f_X12_weakBest x0 x4 (x4 + x3) x6 x5 x2)) (fun v109 => hf_bd (hf_as 20 v73 ((5 * ((41 * (((41 * x4) + x4) + x3)) + x6)) + x5) v109) (fun _ => hf_bd (hf_ret (x6 + 1)) (fun x6_113 => rec_61 x6_113))))))
def f_X12_weak_61 (rec_27 : Int → hf_M Int) (rec_38 : Int → hf_M Int) (rec_52 : Int → hf_M Int) (x0 x1 x2 x3 x4 x5 x6 : Int) : hf_M Int := hf_fx (fun rec s => B_X12_weak_61 rec_27 rec_38 rec_52 x0 x1 x2 x3 x4 x5 rec s) hf_N x6
def B_X12_weak_52 (rec_27 : Int → hf_M Int) (rec_38 : Int → hf_M Int) (x0 x1 x2 x3 x4 : Int) (rec_52 : Int → hf_M Int) (x5 : Int) : hf_M Int :=
  hf_cb x5 x1 (x1 < x5) (hf_bd (hf_ret (x4 + 1)) (fun x4_125 => rec_38 x4_125)) (f_X12_weak_61 rec_27 rec_38 rec_52 x0 x1 x2 x3 x4 x5 0)
def f_X12_weak_52 (rec_27 : Int → hf_M Int) (rec_38 : Int → hf_M Int) (x0 x1 x2 x3 x4 x5 : Int) : hf_M Int := hf_fx (fun rec s => B_X12_weak_52 rec_27 rec_38 x0 x1 x2 x3 x4 rec s) hf_N x5
def B_X12_weak_38 (rec_27 : Int → hf_M Int) (x0 x1 x2 x3 : Int) (rec_38 : Int → hf_M Int) (x4 : Int) : hf_M Int :=
  hf_bd (hf_gf 12 3 x0) (fun v43 => hf_cb (x4 + x3) v43 (v43 < (x4 + x3)) (hf_bd (hf_ret (x3 + 1)) (fun x3_131 => rec_27 x3_131)) (f_X12_weak_52 rec_27 rec_38 x0 x1 x2 x3 x4 1))
def f_X12_weak_38 (rec_27 : Int → hf_M Int) (x0 x1 x2 x3 x4 : Int) : hf_M Int := hf_fx (fun rec s => B_X12_weak_38 rec_27 x0 x1 x2 x3 rec s) hf_N x4
def B_X12_weak_27 (x0 x1 x2 : Int) (rec_27 : Int → hf_M Int) (x3 : Int) : hf_M Int :=
  hf_bd (hf_gf 12 3 x0) (fun v29 => hf_cb x3 v29 (v29 < x3) (hf_bd (hf_gf 12 3 x0) (fun v140 => hf_bd (hf_ob 12 x0 (f_X12_weakAt x0 0 v140 0 x1)) (fun v145 => hf_ck (hf_inI v145 ∧ hf_inI 1000000) (hf_bd (hf_ret (if v145 < 1000000 then v145 else (-2))) (fun w162 => hf_ret w162))))) (f_X12_weak_38 rec_27 x0 x1 x2 x3 0))
def f_X12_weak_27 (x0 x1 x2 x3 : Int) : hf_M Int := hf_fx (fun rec s => B_X12_weak_27 x0 x1 x2 rec s) hf_N x3
def f_X12_weak (x0 x1 x2 : Int) : hf_M Int :=
  hf_bd (hf_pf 12 2 x0 0) (fun _ => hf_bd (f_X12_isIn x1 1 4) (fun v8 => hf_cz v8 (v8 = 0) (hf_ret (-1)) (hf_bd (f_X12_isIn x2 0 3) (fun v17 => hf_cz v17 (¬ v17 = 0) (f_X12_weak_27 x0 x1 x2 1) (hf_ret (-1))))))
theorem cal_X12_weak : hf_cv M_X12_weak 12 2 := ⟨⟨ii_X12, kc_X12_weak, by decide, by decide, by decide +kernel⟩, ki_X12_weak, kv_X12_weak, _, rfl, rfl⟩
set_option maxRecDepth 20000 in
theorem jb_X12_weak_61 (x0 x1 x2 x3 x4 x5 : Int) (rec_27 : Int → hf_M Int) (hrec_27 : ∀ s : Int, hf_J M_X12_weak 27 [(0, 2, x0), (1, 0, x1), (2, 0, x2), (3, 0, s)] [] (rec_27 s)) (rec_38 : Int → hf_M Int) (hrec_38 : ∀ s : Int, hf_J M_X12_weak 38 [(0, 2, x0), (1, 0, x1), (2, 0, x2), (3, 0, x3), (4, 0, s)] [] (rec_38 s)) (rec_52 : Int → hf_M Int) (hrec_52 : ∀ s : Int, hf_J M_X12_weak 52 [(0, 2, x0), (1, 0, x1), (2, 0, x2), (3, 0, x3), (4, 0, x4), (5, 0, s)] [] (rec_52 s)) (rec_61 : Int → hf_M Int) (hrec_61 : ∀ s : Int, hf_J M_X12_weak 61 [(0, 2, x0), (1, 0, x1), (2, 0, x2), (3, 0, x3), (4, 0, x4), (5, 0, x5), (6, 0, s)] [] (rec_61 s)) (x6 : Int) : hf_J M_X12_weak 61 [(0, 2, x0), (1, 0, x1), (2, 0, x2), (3, 0, x3), (4, 0, x4), (5, 0, x5), (6, 0, x6)] [] (B_X12_weak_61 rec_27 rec_38 rec_52 x0 x1 x2 x3 x4 x5 rec_61 x6) := by
  refine hf_ild (pc := 61) 6 rfl dX12_weak_61 ?_
  refine hf_ald_n (pc := 63) 0 rfl rfl dX12_weak_63 ?_
  refine hf_getf (pc := 64) fl_X12_13 dX12_weak_64 (fun v64 => ?_)
  refine hf_ild_n (pc := 67) 3 rfl rfl dX12_weak_67 ?_
  refine hf_isub (pc := 68) dX12_weak_68 ?_
  refine hf_icmp_gt (pc := 69) 119 dX12_weak_69 rfl ?_ ?_
  · refine hf_iincB (pc := 119) (fun y => [(5, 0, y), (0, 2, x0), (1, 0, x1), (2, 0, x2), (3, 0, x3), (4, 0, x4), (6, 0, x6)]) (q := 5) rfl (by decide) (fun _ => rfl) dX12_weak_119 (fun x5_119 => ?_)
    refine hf_goto (pc := 122) 52 dX12_weak_122 rfl ?_
    exact hf_sub [1, 2, 3, 4, 5, 0] rfl (hrec_52 x5_119)
  · refine hf_ald_n (pc := 72) 0 rfl rfl dX12_weak_72 ?_
    refine hf_getf (pc := 73) fl_X12_92 dX12_weak_73 (fun v73 => ?_)
    refine hf_iconst (pc := 76) dX12_weak_76 ?_
    refine hf_bipush (pc := 77) dX12_weak_77 (by decide) ?_
    refine hf_bipush (pc := 79) dX12_weak_79 (by decide) ?_
    refine hf_ild (pc := 81) 4 rfl dX12_weak_81 ?_
    refine hf_imul (pc := 83) dX12_weak_83 ?_
    refine hf_ild (pc := 84) 4 rfl dX12_weak_84 ?_
    refine hf_iadd (pc := 86) dX12_weak_86 ?_
    refine hf_ild_n (pc := 87) 3 rfl rfl dX12_weak_87 ?_
    refine hf_iadd (pc := 88) dX12_weak_88 ?_
    refine hf_imul (pc := 89) dX12_weak_89 ?_
    refine hf_ild (pc := 90) 6 rfl dX12_weak_90 ?_
    refine hf_iadd (pc := 92) dX12_weak_92 ?_
    refine hf_imul (pc := 93) dX12_weak_93 ?_
    refine hf_ild (pc := 94) 5 rfl dX12_weak_94 ?_
    refine hf_iadd (pc := 96) dX12_weak_96 ?_
    refine hf_ald_n (pc := 97) 0 rfl rfl dX12_weak_97 ?_
    refine hf_ild (pc := 98) 4 rfl dX12_weak_98 ?_
    refine hf_ild (pc := 100) 4 rfl dX12_weak_100 ?_
    refine hf_ild_n (pc := 102) 3 rfl rfl dX12_weak_102 ?_
    refine hf_iadd (pc := 103) dX12_weak_103 ?_
    refine hf_ild (pc := 104) 6 rfl dX12_weak_104 ?_
    refine hf_ild (pc := 106) 5 rfl dX12_weak_106 ?_
    refine hf_ild_n (pc := 108) 2 rfl rfl dX12_weak_108 ?_
    refine hf_cV (pc := 109) (N := M_X12_weakBest) (ts := [0, 0, 0, 0, 0]) (vs := [x4, (x4 + x3), x6, x5, x2]) (st := [(0, ((5 * ((41 * (((41 * x4) + x4) + x3)) + x6)) + x5)), (2, v73)]) (fun r => [(0, r), (0, ((5 * ((41 * (((41 * x4) + x4) + x3)) + x6)) + x5)), (2, v73)]) (c_X12_weakBest x0 x4 (x4 + x3) x6 x5 x2) cal_X12_weakBest ml_X12_376 ⟨hf_le rfl, hf_le rfl⟩ (hf_le rfl) ⟨rfl, rfl⟩ rfl dX12_weak_109 (fun _ => rfl) (fun v109 => ?_)
    refine hf_iast (pc := 112) dX12_weak_112 ?_
    refine hf_iincB (pc := 113) (fun y => [(6, 0, y), (0, 2, x0), (1, 0, x1), (2, 0, x2), (3, 0, x3), (4, 0, x4), (5, 0, x5)]) (q := 6) rfl (by decide) (fun _ => rfl) dX12_weak_113 (fun x6_113 => ?_)
    refine hf_goto (pc := 116) 61 dX12_weak_116 rfl ?_
    exact hf_sub [1, 2, 3, 4, 5, 6, 0] rfl (hrec_61 x6_113)
set_option maxRecDepth 20000 in
theorem j_X12_weak_61 (x0 x1 x2 x3 x4 x5 x6 : Int) (rec_27 : Int → hf_M Int) (hrec_27 : ∀ s : Int, hf_J M_X12_weak 27 [(0, 2, x0), (1, 0, x1), (2, 0, x2), (3, 0, s)] [] (rec_27 s)) (rec_38 : Int → hf_M Int) (hrec_38 : ∀ s : Int, hf_J M_X12_weak 38 [(0, 2, x0), (1, 0, x1), (2, 0, x2), (3, 0, x3), (4, 0, s)] [] (rec_38 s)) (rec_52 : Int → hf_M Int) (hrec_52 : ∀ s : Int, hf_J M_X12_weak 52 [(0, 2, x0), (1, 0, x1), (2, 0, x2), (3, 0, x3), (4, 0, x4), (5, 0, s)] [] (rec_52 s)) : hf_J M_X12_weak 61 [(0, 2, x0), (1, 0, x1), (2, 0, x2), (3, 0, x3), (4, 0, x4), (5, 0, x5), (6, 0, x6)] [] (f_X12_weak_61 rec_27 rec_38 rec_52 x0 x1 x2 x3 x4 x5 x6) :=
  hf_Jfx (L := fun s => [(0, 2, x0), (1, 0, x1), (2, 0, x2), (3, 0, x3), (4, 0, x4), (5, 0, x5), (6, 0, s)]) (fun rec hrec s => jb_X12_weak_61 x0 x1 x2 x3 x4 x5 rec_27 hrec_27 rec_38 hrec_38 rec_52 hrec_52 rec hrec s) hf_N x6
set_option maxRecDepth 20000 in
theorem jb_X12_weak_52 (x0 x1 x2 x3 x4 : Int) (rec_27 : Int → hf_M Int) (hrec_27 : ∀ s : Int, hf_J M_X12_weak 27 [(0, 2, x0), (1, 0, x1), (2, 0, x2), (3, 0, s)] [] (rec_27 s)) (rec_38 : Int → hf_M Int) (hrec_38 : ∀ s : Int, hf_J M_X12_weak 38 [(0, 2, x0), (1, 0, x1), (2, 0, x2), (3, 0, x3), (4, 0, s)] [] (rec_38 s)) (rec_52 : Int → hf_M Int) (hrec_52 : ∀ s : Int, hf_J M_X12_weak 52 [(0, 2, x0), (1, 0, x1), (2, 0, x2), (3, 0, x3), (4, 0, x4), (5, 0, s)] [] (rec_52 s)) (x5 : Int) : hf_J M_X12_weak 52 [(0, 2, x0), (1, 0, x1), (2, 0, x2), (3, 0, x3), (4, 0, x4), (5, 0, x5)] [] (B_X12_weak_52 rec_27 rec_38 x0 x1 x2 x3 x4 rec_52 x5) := by
  refine hf_ild (pc := 52) 5 rfl dX12_weak_52 ?_
  refine hf_ild_n (pc := 54) 1 rfl rfl dX12_weak_54 ?_
  refine hf_icmp_gt (pc := 55) 125 dX12_weak_55 rfl ?_ ?_
  · refine hf_iincB (pc := 125) (fun y => [(4, 0, y), (0, 2, x0), (1, 0, x1), (2, 0, x2), (3, 0, x3), (5, 0, x5)]) (q := 4) rfl (by decide) (fun _ => rfl) dX12_weak_125 (fun x4_125 => ?_)
    refine hf_goto (pc := 128) 38 dX12_weak_128 rfl ?_
    exact hf_sub [1, 2, 3, 4, 0] rfl (hrec_38 x4_125)
  · refine hf_iconst (pc := 58) dX12_weak_58 ?_
    refine hf_ist (pc := 59) (lv' := [(6, 0, 0), (0, 2, x0), (1, 0, x1), (2, 0, x2), (3, 0, x3), (4, 0, x4), (5, 0, x5)]) (by decide) rfl dX12_weak_59 ?_
    exact hf_sub [1, 2, 3, 4, 5, 6, 0] rfl (j_X12_weak_61 x0 x1 x2 x3 x4 x5 0 rec_27 hrec_27 rec_38 hrec_38 rec_52 hrec_52)
set_option maxRecDepth 20000 in
theorem j_X12_weak_52 (x0 x1 x2 x3 x4 x5 : Int) (rec_27 : Int → hf_M Int) (hrec_27 : ∀ s : Int, hf_J M_X12_weak 27 [(0, 2, x0), (1, 0, x1), (2, 0, x2), (3, 0, s)] [] (rec_27 s)) (rec_38 : Int → hf_M Int) (hrec_38 : ∀ s : Int, hf_J M_X12_weak 38 [(0, 2, x0), (1, 0, x1), (2, 0, x2), (3, 0, x3), (4, 0, s)] [] (rec_38 s)) : hf_J M_X12_weak 52 [(0, 2, x0), (1, 0, x1), (2, 0, x2), (3, 0, x3), (4, 0, x4), (5, 0, x5)] [] (f_X12_weak_52 rec_27 rec_38 x0 x1 x2 x3 x4 x5) :=
  hf_Jfx (L := fun s => [(0, 2, x0), (1, 0, x1), (2, 0, x2), (3, 0, x3), (4, 0, x4), (5, 0, s)]) (fun rec hrec s => jb_X12_weak_52 x0 x1 x2 x3 x4 rec_27 hrec_27 rec_38 hrec_38 rec hrec s) hf_N x5
set_option maxRecDepth 20000 in
theorem jb_X12_weak_38 (x0 x1 x2 x3 : Int) (rec_27 : Int → hf_M Int) (hrec_27 : ∀ s : Int, hf_J M_X12_weak 27 [(0, 2, x0), (1, 0, x1), (2, 0, x2), (3, 0, s)] [] (rec_27 s)) (rec_38 : Int → hf_M Int) (hrec_38 : ∀ s : Int, hf_J M_X12_weak 38 [(0, 2, x0), (1, 0, x1), (2, 0, x2), (3, 0, x3), (4, 0, s)] [] (rec_38 s)) (x4 : Int) : hf_J M_X12_weak 38 [(0, 2, x0), (1, 0, x1), (2, 0, x2), (3, 0, x3), (4, 0, x4)] [] (B_X12_weak_38 rec_27 x0 x1 x2 x3 rec_38 x4) := by
  refine hf_ild (pc := 38) 4 rfl dX12_weak_38 ?_
  refine hf_ild_n (pc := 40) 3 rfl rfl dX12_weak_40 ?_
  refine hf_iadd (pc := 41) dX12_weak_41 ?_
  refine hf_ald_n (pc := 42) 0 rfl rfl dX12_weak_42 ?_
  refine hf_getf (pc := 43) fl_X12_13 dX12_weak_43 (fun v43 => ?_)
  refine hf_icmp_gt (pc := 46) 131 dX12_weak_46 rfl ?_ ?_
  · refine hf_iincB (pc := 131) (fun y => [(3, 0, y), (0, 2, x0), (1, 0, x1), (2, 0, x2), (4, 0, x4)]) (q := 3) rfl (by decide) (fun _ => rfl) dX12_weak_131 (fun x3_131 => ?_)
    refine hf_goto (pc := 134) 27 dX12_weak_134 rfl ?_
    exact hf_sub [1, 2, 3, 0] rfl (hrec_27 x3_131)
  · refine hf_iconst (pc := 49) dX12_weak_49 ?_
    refine hf_ist (pc := 50) (lv' := [(5, 0, 1), (0, 2, x0), (1, 0, x1), (2, 0, x2), (3, 0, x3), (4, 0, x4)]) (by decide) rfl dX12_weak_50 ?_
    exact hf_sub [1, 2, 3, 4, 5, 0] rfl (j_X12_weak_52 x0 x1 x2 x3 x4 1 rec_27 hrec_27 rec_38 hrec_38)
set_option maxRecDepth 20000 in
theorem j_X12_weak_38 (x0 x1 x2 x3 x4 : Int) (rec_27 : Int → hf_M Int) (hrec_27 : ∀ s : Int, hf_J M_X12_weak 27 [(0, 2, x0), (1, 0, x1), (2, 0, x2), (3, 0, s)] [] (rec_27 s)) : hf_J M_X12_weak 38 [(0, 2, x0), (1, 0, x1), (2, 0, x2), (3, 0, x3), (4, 0, x4)] [] (f_X12_weak_38 rec_27 x0 x1 x2 x3 x4) :=
  hf_Jfx (L := fun s => [(0, 2, x0), (1, 0, x1), (2, 0, x2), (3, 0, x3), (4, 0, s)]) (fun rec hrec s => jb_X12_weak_38 x0 x1 x2 x3 rec_27 hrec_27 rec hrec s) hf_N x4
set_option maxRecDepth 20000 in
theorem jb_X12_weak_27 (x0 x1 x2 : Int) (rec_27 : Int → hf_M Int) (hrec_27 : ∀ s : Int, hf_J M_X12_weak 27 [(0, 2, x0), (1, 0, x1), (2, 0, x2), (3, 0, s)] [] (rec_27 s)) (x3 : Int) : hf_J M_X12_weak 27 [(0, 2, x0), (1, 0, x1), (2, 0, x2), (3, 0, x3)] [] (B_X12_weak_27 x0 x1 x2 rec_27 x3) := by
  refine hf_ild_n (pc := 27) 3 rfl rfl dX12_weak_27 ?_
  refine hf_ald_n (pc := 28) 0 rfl rfl dX12_weak_28 ?_
  refine hf_getf (pc := 29) fl_X12_13 dX12_weak_29 (fun v29 => ?_)
  refine hf_icmp_gt (pc := 32) 137 dX12_weak_32 rfl ?_ ?_
  · refine hf_ald_n (pc := 137) 0 rfl rfl dX12_weak_137 ?_
    refine hf_iconst (pc := 138) dX12_weak_138 ?_
    refine hf_ald_n (pc := 139) 0 rfl rfl dX12_weak_139 ?_
    refine hf_getf (pc := 140) fl_X12_13 dX12_weak_140 (fun v140 => ?_)
    refine hf_iconst (pc := 143) dX12_weak_143 ?_
    refine hf_ild_n (pc := 144) 1 rfl rfl dX12_weak_144 ?_
    refine hf_cV (pc := 145) (N := M_X12_weakAt) (ts := [0, 0, 0, 0]) (vs := [0, v140, 0, x1]) (st := []) (fun r => [(0, r)]) (c_X12_weakAt x0 0 v140 0 x1) cal_X12_weakAt ml_X12_372 ⟨hf_le rfl, hf_le rfl⟩ (hf_le rfl) ⟨rfl, rfl⟩ rfl dX12_weak_145 (fun _ => rfl) (fun v145 => ?_)
    refine hf_ist_n (pc := 148) (lv' := [(3, 0, v145), (0, 2, x0), (1, 0, x1), (2, 0, x2)]) rfl (by decide) rfl dX12_weak_148 ?_
    refine hf_ild_n (pc := 149) 0 rfl rfl dX12_weak_149 ?_
    refine hf_ldcw (pc := 150) (n := 1000000) co_X12_371 (by decide) dX12_weak_150 ?_
    refine hf_Jdib (pc := 153) (pcM := 162) (t := 0) (stM := []) (fun w162 => ?_) (fun a1 a2 => ?_)
    · exact hf_Jret (pc := 162) dX12_weak_162 (fun _ => rfl)
    · refine hf_icmp_lt (pc := 153) 161 dX12_weak_153 rfl ?_ ?_
      · refine hf_ild_n (pc := 161) 0 rfl rfl dX12_weak_161 ?_
        exact a1
      · refine hf_bipush (pc := 156) dX12_weak_156 (by decide) ?_
        refine hf_goto (pc := 158) 162 dX12_weak_158 rfl ?_
        exact a2
  · refine hf_iconst (pc := 35) dX12_weak_35 ?_
    refine hf_ist (pc := 36) (lv' := [(4, 0, 0), (0, 2, x0), (1, 0, x1), (2, 0, x2), (3, 0, x3)]) (by decide) rfl dX12_weak_36 ?_
    exact hf_sub [1, 2, 3, 4, 0] rfl (j_X12_weak_38 x0 x1 x2 x3 0 rec_27 hrec_27)
set_option maxRecDepth 20000 in
theorem j_X12_weak_27 (x0 x1 x2 x3 : Int) : hf_J M_X12_weak 27 [(0, 2, x0), (1, 0, x1), (2, 0, x2), (3, 0, x3)] [] (f_X12_weak_27 x0 x1 x2 x3) :=
  hf_Jfx (L := fun s => [(0, 2, x0), (1, 0, x1), (2, 0, x2), (3, 0, s)]) (fun rec hrec s => jb_X12_weak_27 x0 x1 x2 rec hrec s) hf_N x3
set_option maxRecDepth 20000 in
theorem c_X12_weak (x0 x1 x2 : Int) : hf_Met M_X12_weak [2, 0, 0] [x0, x1, x2] (f_X12_weak x0 x1 x2) := by
  refine hf_met rfl (by decide) (by decide) (by decide) ?_
  show hf_J M_X12_weak 0 [(0, 2, x0), (1, 0, x1), (2, 0, x2)] [] _
  refine hf_ald_n (pc := 0) 0 rfl rfl dX12_weak_0 ?_
  refine hf_iconst (pc := 1) dX12_weak_1 ?_
  refine hf_putf (pc := 2) fl_X12_127 trivial dX12_weak_2 ?_
  refine hf_ild_n (pc := 5) 1 rfl rfl dX12_weak_5 ?_
  refine hf_iconst (pc := 6) dX12_weak_6 ?_
  refine hf_iconst (pc := 7) dX12_weak_7 ?_
  refine hf_cS (pc := 8) (N := M_X12_isIn) (ts := [0, 0, 0]) (vs := [x1, 1, 4]) (st := []) (fun r => [(0, r)]) (c_X12_isIn x1 1 4) cal_X12_isIn ml_X12_133 ⟨hf_le rfl, hf_le rfl⟩ (hf_le rfl) ⟨rfl, rfl⟩ rfl dX12_weak_8 (fun _ => rfl) (fun v8 => ?_)
  refine hf_if_eq (pc := 11) 23 dX12_weak_11 rfl ?_ ?_
  · refine hf_iconst (pc := 23) dX12_weak_23 ?_
    exact hf_Jret (pc := 24) dX12_weak_24 (fun _ => rfl)
  · refine hf_ild_n (pc := 14) 2 rfl rfl dX12_weak_14 ?_
    refine hf_iconst (pc := 15) dX12_weak_15 ?_
    refine hf_iconst (pc := 16) dX12_weak_16 ?_
    refine hf_cS (pc := 17) (N := M_X12_isIn) (ts := [0, 0, 0]) (vs := [x2, 0, 3]) (st := []) (fun r => [(0, r)]) (c_X12_isIn x2 0 3) cal_X12_isIn ml_X12_133 ⟨hf_le rfl, hf_le rfl⟩ (hf_le rfl) ⟨rfl, rfl⟩ rfl dX12_weak_17 (fun _ => rfl) (fun v17 => ?_)
    refine hf_if_ne (pc := 20) 25 dX12_weak_20 rfl ?_ ?_
    · refine hf_iconst (pc := 25) dX12_weak_25 ?_
      refine hf_ist_n (pc := 26) (lv' := [(3, 0, 1), (0, 2, x0), (1, 0, x1), (2, 0, x2)]) rfl (by decide) rfl dX12_weak_26 ?_
      exact hf_sub [1, 2, 3, 0] rfl (j_X12_weak_27 x0 x1 x2 1)
    · refine hf_iconst (pc := 23) dX12_weak_23 ?_
      exact hf_Jret (pc := 24) dX12_weak_24 (fun _ => rfl)
/-! HighFallModel.rounds(II)I -/
def M_X12_rounds : hf_D := (yX12_rounds, cX12_rounds, 8, some .int, 1, 22)
def B_X12_rounds_100 (rec_49 : Int → hf_M Int) (rec_73 : Int → hf_M Int) (x0 x1 x2 x3 x4 x5 : Int) (rec_100 : Int × Int → hf_M Int) (x6 x7 : Int) : hf_M Int :=
  hf_cb x7 x5 (x5 < x7) (hf_bd (hf_gf 12 55 x0) (fun v138 => hf_bd (hf_as 20 v138 ((10 * x3) + x4) x6) (fun _ => hf_bd (hf_ret (x4 + 1)) (fun x4_151 => rec_73 x4_151)))) (hf_bd (hf_gf 12 55 x0) (fun v110 => hf_bd (hf_al 20 v110 (((10 * (x3 - 1)) + x4) - x7)) (fun v125 => hf_bd (hf_ret (x6 + (v125 + 1))) (fun x6_129 => hf_bd (hf_ret (x7 + 1)) (fun x7_131 => rec_100 (x6_129, x7_131))))))
def f_X12_rounds_100 (rec_49 : Int → hf_M Int) (rec_73 : Int → hf_M Int) (x0 x1 x2 x3 x4 x5 x6 x7 : Int) : hf_M Int := hf_fx (fun rec s => B_X12_rounds_100 rec_49 rec_73 x0 x1 x2 x3 x4 x5 rec s.1 s.2) hf_N (x6, x7)
def B_X12_rounds_73 (rec_49 : Int → hf_M Int) (x0 x1 x2 x3 : Int) (rec_73 : Int → hf_M Int) (x4 : Int) : hf_M Int :=
  hf_cb x4 10 (10 ≤ x4) (rec_49 x3) (hf_ck (hf_inI x4 ∧ hf_inI x2) (hf_bd (hf_ret (if x2 ≤ x4 then x2 else x4)) (fun w92 => f_X12_rounds_100 rec_49 rec_73 x0 x1 x2 x3 x4 w92 (-1) 0)))
def f_X12_rounds_73 (rec_49 : Int → hf_M Int) (x0 x1 x2 x3 x4 : Int) : hf_M Int := hf_fx (fun rec s => B_X12_rounds_73 rec_49 x0 x1 x2 x3 rec s) hf_N x4
def B_X12_rounds_49 (x0 x1 x2 : Int) (rec_49 : Int → hf_M Int) (x3 : Int) : hf_M Int :=
  hf_bd (hf_gf 12 55 x0) (fun v50 => hf_bd (hf_al 20 v50 ((10 * x3) + x1)) (fun v59 => hf_bd (hf_gf 12 3 x0) (fun v61 => hf_cb v59 v61 (v61 ≤ v59) (hf_ret x3) (hf_bd (hf_ret (x3 + 1)) (fun x3_67 => f_X12_rounds_73 rec_49 x0 x1 x2 x3_67 0)))))
def f_X12_rounds_49 (x0 x1 x2 x3 : Int) : hf_M Int := hf_fx (fun rec s => B_X12_rounds_49 x0 x1 x2 rec s) hf_N x3
def B_X12_rounds_28 (x0 x1 x2 : Int) (rec_28 : Int → hf_M Int) (x3 : Int) : hf_M Int :=
  hf_cb x3 10 (10 ≤ x3) (f_X12_rounds_49 x0 x1 x2 0) (hf_bd (hf_gf 12 55 x0) (fun v35 => hf_bd (hf_as 20 v35 x3 0) (fun _ => hf_bd (hf_ret (x3 + 1)) (fun x3_41 => rec_28 x3_41))))
def f_X12_rounds_28 (x0 x1 x2 x3 : Int) : hf_M Int := hf_fx (fun rec s => B_X12_rounds_28 x0 x1 x2 rec s) hf_N x3
def f_X12_rounds (x0 x1 x2 : Int) : hf_M Int :=
  hf_bd (hf_pf 12 2 x0 0) (fun _ => hf_bd (f_X12_isIn x1 1 9) (fun v9 => hf_cz v9 (v9 = 0) (hf_ret (-1)) (hf_bd (f_X12_isIn x2 1 4) (fun v18 => hf_cz v18 (¬ v18 = 0) (f_X12_rounds_28 x0 x1 x2 0) (hf_ret (-1))))))
theorem cal_X12_rounds : hf_cv M_X12_rounds 12 2 := ⟨⟨ii_X12, kc_X12_rounds, by decide, by decide, by decide +kernel⟩, ki_X12_rounds, kv_X12_rounds, _, rfl, rfl⟩
set_option maxRecDepth 20000 in
theorem jb_X12_rounds_100 (x0 x1 x2 x3 x4 x5 : Int) (rec_49 : Int → hf_M Int) (hrec_49 : ∀ s : Int, hf_J M_X12_rounds 49 [(0, 2, x0), (1, 0, x1), (2, 0, x2), (3, 0, s)] [] (rec_49 s)) (rec_73 : Int → hf_M Int) (hrec_73 : ∀ s : Int, hf_J M_X12_rounds 73 [(0, 2, x0), (1, 0, x1), (2, 0, x2), (3, 0, x3), (4, 0, s)] [] (rec_73 s)) (rec_100 : Int × Int → hf_M Int) (hrec_100 : ∀ s : Int × Int, hf_J M_X12_rounds 100 [(0, 2, x0), (1, 0, x1), (2, 0, x2), (3, 0, x3), (4, 0, x4), (5, 0, x5), (6, 0, s.1), (7, 0, s.2)] [] (rec_100 s)) (x6 x7 : Int) : hf_J M_X12_rounds 100 [(0, 2, x0), (1, 0, x1), (2, 0, x2), (3, 0, x3), (4, 0, x4), (5, 0, x5), (6, 0, x6), (7, 0, x7)] [] (B_X12_rounds_100 rec_49 rec_73 x0 x1 x2 x3 x4 x5 rec_100 x6 x7) := by
  refine hf_ild (pc := 100) 7 rfl dX12_rounds_100 ?_
  refine hf_ild (pc := 102) 5 rfl dX12_rounds_102 ?_
  refine hf_icmp_gt (pc := 104) 137 dX12_rounds_104 rfl ?_ ?_
  · refine hf_ald_n (pc := 137) 0 rfl rfl dX12_rounds_137 ?_
    refine hf_getf (pc := 138) fl_X12_95 dX12_rounds_138 (fun v138 => ?_)
    refine hf_bipush (pc := 141) dX12_rounds_141 (by decide) ?_
    refine hf_ild_n (pc := 143) 3 rfl rfl dX12_rounds_143 ?_
    refine hf_imul (pc := 144) dX12_rounds_144 ?_
    refine hf_ild (pc := 145) 4 rfl dX12_rounds_145 ?_
    refine hf_iadd (pc := 147) dX12_rounds_147 ?_
    refine hf_ild (pc := 148) 6 rfl dX12_rounds_148 ?_
    refine hf_iast (pc := 150) dX12_rounds_150 ?_
    refine hf_iincB (pc := 151) (fun y => [(4, 0, y), (0, 2, x0), (1, 0, x1), (2, 0, x2), (3, 0, x3), (5, 0, x5), (6, 0, x6), (7, 0, x7)]) (q := 4) rfl (by decide) (fun _ => rfl) dX12_rounds_151 (fun x4_151 => ?_)
    refine hf_goto (pc := 154) 73 dX12_rounds_154 rfl ?_
    exact hf_sub [1, 2, 3, 4, 0] rfl (hrec_73 x4_151)
  · refine hf_ild (pc := 107) 6 rfl dX12_rounds_107 ?_
    refine hf_ald_n (pc := 109) 0 rfl rfl dX12_rounds_109 ?_
    refine hf_getf (pc := 110) fl_X12_95 dX12_rounds_110 (fun v110 => ?_)
    refine hf_bipush (pc := 113) dX12_rounds_113 (by decide) ?_
    refine hf_ild_n (pc := 115) 3 rfl rfl dX12_rounds_115 ?_
    refine hf_iconst (pc := 116) dX12_rounds_116 ?_
    refine hf_isub (pc := 117) dX12_rounds_117 ?_
    refine hf_imul (pc := 118) dX12_rounds_118 ?_
    refine hf_ild (pc := 119) 4 rfl dX12_rounds_119 ?_
    refine hf_iadd (pc := 121) dX12_rounds_121 ?_
    refine hf_ild (pc := 122) 7 rfl dX12_rounds_122 ?_
    refine hf_isub (pc := 124) dX12_rounds_124 ?_
    refine hf_iald (pc := 125) dX12_rounds_125 (fun v125 => ?_)
    refine hf_iconst (pc := 126) dX12_rounds_126 ?_
    refine hf_iadd (pc := 127) dX12_rounds_127 ?_
    refine hf_iadd (pc := 128) dX12_rounds_128 ?_
    refine hf_istB (pc := 129) (fun y => [(6, 0, y), (0, 2, x0), (1, 0, x1), (2, 0, x2), (3, 0, x3), (4, 0, x4), (5, 0, x5), (7, 0, x7)]) (by decide) (fun _ => rfl) dX12_rounds_129 (fun x6_129 => ?_)
    refine hf_iincB (pc := 131) (fun y => [(7, 0, y), (6, 0, x6_129), (0, 2, x0), (1, 0, x1), (2, 0, x2), (3, 0, x3), (4, 0, x4), (5, 0, x5)]) (q := 7) rfl (by decide) (fun _ => rfl) dX12_rounds_131 (fun x7_131 => ?_)
    refine hf_goto (pc := 134) 100 dX12_rounds_134 rfl ?_
    exact hf_sub [2, 3, 4, 5, 6, 7, 1, 0] rfl (hrec_100 (x6_129, x7_131))
set_option maxRecDepth 20000 in
theorem j_X12_rounds_100 (x0 x1 x2 x3 x4 x5 x6 x7 : Int) (rec_49 : Int → hf_M Int) (hrec_49 : ∀ s : Int, hf_J M_X12_rounds 49 [(0, 2, x0), (1, 0, x1), (2, 0, x2), (3, 0, s)] [] (rec_49 s)) (rec_73 : Int → hf_M Int) (hrec_73 : ∀ s : Int, hf_J M_X12_rounds 73 [(0, 2, x0), (1, 0, x1), (2, 0, x2), (3, 0, x3), (4, 0, s)] [] (rec_73 s)) : hf_J M_X12_rounds 100 [(0, 2, x0), (1, 0, x1), (2, 0, x2), (3, 0, x3), (4, 0, x4), (5, 0, x5), (6, 0, x6), (7, 0, x7)] [] (f_X12_rounds_100 rec_49 rec_73 x0 x1 x2 x3 x4 x5 x6 x7) :=
  hf_Jfx (L := fun s => [(0, 2, x0), (1, 0, x1), (2, 0, x2), (3, 0, x3), (4, 0, x4), (5, 0, x5), (6, 0, s.1), (7, 0, s.2)]) (fun rec hrec s => jb_X12_rounds_100 x0 x1 x2 x3 x4 x5 rec_49 hrec_49 rec_73 hrec_73 rec hrec s.1 s.2) hf_N (x6, x7)
set_option maxRecDepth 20000 in
theorem jb_X12_rounds_73 (x0 x1 x2 x3 : Int) (rec_49 : Int → hf_M Int) (hrec_49 : ∀ s : Int, hf_J M_X12_rounds 49 [(0, 2, x0), (1, 0, x1), (2, 0, x2), (3, 0, s)] [] (rec_49 s)) (rec_73 : Int → hf_M Int) (hrec_73 : ∀ s : Int, hf_J M_X12_rounds 73 [(0, 2, x0), (1, 0, x1), (2, 0, x2), (3, 0, x3), (4, 0, s)] [] (rec_73 s)) (x4 : Int) : hf_J M_X12_rounds 73 [(0, 2, x0), (1, 0, x1), (2, 0, x2), (3, 0, x3), (4, 0, x4)] [] (B_X12_rounds_73 rec_49 x0 x1 x2 x3 rec_73 x4) := by
  refine hf_ild (pc := 73) 4 rfl dX12_rounds_73 ?_
  refine hf_bipush (pc := 75) dX12_rounds_75 (by decide) ?_
  refine hf_icmp_ge (pc := 77) 157 dX12_rounds_77 rfl ?_ ?_
  · refine hf_goto (pc := 157) 49 dX12_rounds_157 rfl ?_
    exact hf_sub [0, 1, 2, 3] rfl (hrec_49 x3)
  · refine hf_ild (pc := 80) 4 rfl dX12_rounds_80 ?_
    refine hf_ild_n (pc := 82) 2 rfl rfl dX12_rounds_82 ?_
    refine hf_Jdib (pc := 83) (pcM := 92) (t := 0) (stM := []) (fun w92 => ?_) (fun a1 a2 => ?_)
    · refine hf_ist (pc := 92) (lv' := [(5, 0, w92), (0, 2, x0), (1, 0, x1), (2, 0, x2), (3, 0, x3), (4, 0, x4)]) (by decide) rfl dX12_rounds_92 ?_
      refine hf_iconst (pc := 94) dX12_rounds_94 ?_
      refine hf_ist (pc := 95) (lv' := [(6, 0, (-1)), (5, 0, w92), (0, 2, x0), (1, 0, x1), (2, 0, x2), (3, 0, x3), (4, 0, x4)]) (by decide) rfl dX12_rounds_95 ?_
      refine hf_iconst (pc := 97) dX12_rounds_97 ?_
      refine hf_ist (pc := 98) (lv' := [(7, 0, 0), (6, 0, (-1)), (5, 0, w92), (0, 2, x0), (1, 0, x1), (2, 0, x2), (3, 0, x3), (4, 0, x4)]) (by decide) rfl dX12_rounds_98 ?_
      exact hf_sub [3, 4, 5, 6, 7, 2, 1, 0] rfl (j_X12_rounds_100 x0 x1 x2 x3 x4 w92 (-1) 0 rec_49 hrec_49 rec_73 hrec_73)
    · refine hf_icmp_ge (pc := 83) 91 dX12_rounds_83 rfl ?_ ?_
      · refine hf_ild_n (pc := 91) 2 rfl rfl dX12_rounds_91 ?_
        exact a1
      · refine hf_ild (pc := 86) 4 rfl dX12_rounds_86 ?_
        refine hf_goto (pc := 88) 92 dX12_rounds_88 rfl ?_
        exact a2
set_option maxRecDepth 20000 in
theorem j_X12_rounds_73 (x0 x1 x2 x3 x4 : Int) (rec_49 : Int → hf_M Int) (hrec_49 : ∀ s : Int, hf_J M_X12_rounds 49 [(0, 2, x0), (1, 0, x1), (2, 0, x2), (3, 0, s)] [] (rec_49 s)) : hf_J M_X12_rounds 73 [(0, 2, x0), (1, 0, x1), (2, 0, x2), (3, 0, x3), (4, 0, x4)] [] (f_X12_rounds_73 rec_49 x0 x1 x2 x3 x4) :=
  hf_Jfx (L := fun s => [(0, 2, x0), (1, 0, x1), (2, 0, x2), (3, 0, x3), (4, 0, s)]) (fun rec hrec s => jb_X12_rounds_73 x0 x1 x2 x3 rec_49 hrec_49 rec hrec s) hf_N x4
set_option maxRecDepth 20000 in
theorem jb_X12_rounds_49 (x0 x1 x2 : Int) (rec_49 : Int → hf_M Int) (hrec_49 : ∀ s : Int, hf_J M_X12_rounds 49 [(0, 2, x0), (1, 0, x1), (2, 0, x2), (3, 0, s)] [] (rec_49 s)) (x3 : Int) : hf_J M_X12_rounds 49 [(0, 2, x0), (1, 0, x1), (2, 0, x2), (3, 0, x3)] [] (B_X12_rounds_49 x0 x1 x2 rec_49 x3) := by
  refine hf_ald_n (pc := 49) 0 rfl rfl dX12_rounds_49 ?_
  refine hf_getf (pc := 50) fl_X12_95 dX12_rounds_50 (fun v50 => ?_)
  refine hf_bipush (pc := 53) dX12_rounds_53 (by decide) ?_
  refine hf_ild_n (pc := 55) 3 rfl rfl dX12_rounds_55 ?_
  refine hf_imul (pc := 56) dX12_rounds_56 ?_
  refine hf_ild_n (pc := 57) 1 rfl rfl dX12_rounds_57 ?_
  refine hf_iadd (pc := 58) dX12_rounds_58 ?_
  refine hf_iald (pc := 59) dX12_rounds_59 (fun v59 => ?_)
  refine hf_ald_n (pc := 60) 0 rfl rfl dX12_rounds_60 ?_
  refine hf_getf (pc := 61) fl_X12_13 dX12_rounds_61 (fun v61 => ?_)
  refine hf_icmp_ge (pc := 64) 160 dX12_rounds_64 rfl ?_ ?_
  · refine hf_ild_n (pc := 160) 3 rfl rfl dX12_rounds_160 ?_
    exact hf_Jret (pc := 161) dX12_rounds_161 (fun _ => rfl)
  · refine hf_iincB (pc := 67) (fun y => [(3, 0, y), (0, 2, x0), (1, 0, x1), (2, 0, x2)]) (q := 3) rfl (by decide) (fun _ => rfl) dX12_rounds_67 (fun x3_67 => ?_)
    refine hf_iconst (pc := 70) dX12_rounds_70 ?_
    refine hf_ist (pc := 71) (lv' := [(4, 0, 0), (3, 0, x3_67), (0, 2, x0), (1, 0, x1), (2, 0, x2)]) (by decide) rfl dX12_rounds_71 ?_
    exact hf_sub [2, 3, 4, 1, 0] rfl (j_X12_rounds_73 x0 x1 x2 x3_67 0 rec_49 hrec_49)
set_option maxRecDepth 20000 in
theorem j_X12_rounds_49 (x0 x1 x2 x3 : Int) : hf_J M_X12_rounds 49 [(0, 2, x0), (1, 0, x1), (2, 0, x2), (3, 0, x3)] [] (f_X12_rounds_49 x0 x1 x2 x3) :=
  hf_Jfx (L := fun s => [(0, 2, x0), (1, 0, x1), (2, 0, x2), (3, 0, s)]) (fun rec hrec s => jb_X12_rounds_49 x0 x1 x2 rec hrec s) hf_N x3
set_option maxRecDepth 20000 in
theorem jb_X12_rounds_28 (x0 x1 x2 : Int) (rec_28 : Int → hf_M Int) (hrec_28 : ∀ s : Int, hf_J M_X12_rounds 28 [(0, 2, x0), (1, 0, x1), (2, 0, x2), (3, 0, s)] [] (rec_28 s)) (x3 : Int) : hf_J M_X12_rounds 28 [(0, 2, x0), (1, 0, x1), (2, 0, x2), (3, 0, x3)] [] (B_X12_rounds_28 x0 x1 x2 rec_28 x3) := by
  refine hf_ild_n (pc := 28) 3 rfl rfl dX12_rounds_28 ?_
  refine hf_bipush (pc := 29) dX12_rounds_29 (by decide) ?_
  refine hf_icmp_ge (pc := 31) 47 dX12_rounds_31 rfl ?_ ?_
  · refine hf_iconst (pc := 47) dX12_rounds_47 ?_
    refine hf_ist_n (pc := 48) (lv' := [(3, 0, 0), (0, 2, x0), (1, 0, x1), (2, 0, x2)]) rfl (by decide) rfl dX12_rounds_48 ?_
    exact hf_sub [1, 2, 3, 0] rfl (j_X12_rounds_49 x0 x1 x2 0)
  · refine hf_ald_n (pc := 34) 0 rfl rfl dX12_rounds_34 ?_
    refine hf_getf (pc := 35) fl_X12_95 dX12_rounds_35 (fun v35 => ?_)
    refine hf_ild_n (pc := 38) 3 rfl rfl dX12_rounds_38 ?_
    refine hf_iconst (pc := 39) dX12_rounds_39 ?_
    refine hf_iast (pc := 40) dX12_rounds_40 ?_
    refine hf_iincB (pc := 41) (fun y => [(3, 0, y), (0, 2, x0), (1, 0, x1), (2, 0, x2)]) (q := 3) rfl (by decide) (fun _ => rfl) dX12_rounds_41 (fun x3_41 => ?_)
    refine hf_goto (pc := 44) 28 dX12_rounds_44 rfl ?_
    exact hf_sub [1, 2, 3, 0] rfl (hrec_28 x3_41)
set_option maxRecDepth 20000 in
theorem j_X12_rounds_28 (x0 x1 x2 x3 : Int) : hf_J M_X12_rounds 28 [(0, 2, x0), (1, 0, x1), (2, 0, x2), (3, 0, x3)] [] (f_X12_rounds_28 x0 x1 x2 x3) :=
  hf_Jfx (L := fun s => [(0, 2, x0), (1, 0, x1), (2, 0, x2), (3, 0, s)]) (fun rec hrec s => jb_X12_rounds_28 x0 x1 x2 rec hrec s) hf_N x3
set_option maxRecDepth 20000 in
theorem c_X12_rounds (x0 x1 x2 : Int) : hf_Met M_X12_rounds [2, 0, 0] [x0, x1, x2] (f_X12_rounds x0 x1 x2) := by
  refine hf_met rfl (by decide) (by decide) (by decide) ?_
  show hf_J M_X12_rounds 0 [(0, 2, x0), (1, 0, x1), (2, 0, x2)] [] _
  refine hf_ald_n (pc := 0) 0 rfl rfl dX12_rounds_0 ?_
  refine hf_iconst (pc := 1) dX12_rounds_1 ?_
  refine hf_putf (pc := 2) fl_X12_127 trivial dX12_rounds_2 ?_
  refine hf_ild_n (pc := 5) 1 rfl rfl dX12_rounds_5 ?_
  refine hf_iconst (pc := 6) dX12_rounds_6 ?_
  refine hf_bipush (pc := 7) dX12_rounds_7 (by decide) ?_
  refine hf_cS (pc := 9) (N := M_X12_isIn) (ts := [0, 0, 0]) (vs := [x1, 1, 9]) (st := []) (fun r => [(0, r)]) (c_X12_isIn x1 1 9) cal_X12_isIn ml_X12_133 ⟨hf_le rfl, hf_le rfl⟩ (hf_le rfl) ⟨rfl, rfl⟩ rfl dX12_rounds_9 (fun _ => rfl) (fun v9 => ?_)
  refine hf_if_eq (pc := 12) 24 dX12_rounds_12 rfl ?_ ?_
  · refine hf_iconst (pc := 24) dX12_rounds_24 ?_
    exact hf_Jret (pc := 25) dX12_rounds_25 (fun _ => rfl)
  · refine hf_ild_n (pc := 15) 2 rfl rfl dX12_rounds_15 ?_
    refine hf_iconst (pc := 16) dX12_rounds_16 ?_
    refine hf_iconst (pc := 17) dX12_rounds_17 ?_
    refine hf_cS (pc := 18) (N := M_X12_isIn) (ts := [0, 0, 0]) (vs := [x2, 1, 4]) (st := []) (fun r => [(0, r)]) (c_X12_isIn x2 1 4) cal_X12_isIn ml_X12_133 ⟨hf_le rfl, hf_le rfl⟩ (hf_le rfl) ⟨rfl, rfl⟩ rfl dX12_rounds_18 (fun _ => rfl) (fun v18 => ?_)
    refine hf_if_ne (pc := 21) 26 dX12_rounds_21 rfl ?_ ?_
    · refine hf_iconst (pc := 26) dX12_rounds_26 ?_
      refine hf_ist_n (pc := 27) (lv' := [(3, 0, 0), (0, 2, x0), (1, 0, x1), (2, 0, x2)]) rfl (by decide) rfl dX12_rounds_27 ?_
      exact hf_sub [1, 2, 3, 0] rfl (j_X12_rounds_28 x0 x1 x2 0)
    · refine hf_iconst (pc := 24) dX12_rounds_24 ?_
      exact hf_Jret (pc := 25) dX12_rounds_25 (fun _ => rfl)
/-! HighFallModel.digitOf(III)I -/
def M_X12_digitOf : hf_D := (yX12_digitOf, cX12_digitOf, 6, some .int, 0, 0)
def B_X12_digitOf_6 (x2 x3 : Int) (rec_6 : Int × Int → hf_M Int) (x4 x5 : Int) : hf_M Int :=
  hf_cb x5 x2 (x2 ≤ x5) (hf_bd (hf_rm x4 x3) (fun v27 => hf_ret v27)) (hf_bd (hf_dv x4 x3) (fun v15 => hf_bd (hf_ret (x5 + 1)) (fun x5_18 => rec_6 (v15, x5_18))))
def f_X12_digitOf_6 (x2 x3 x4 x5 : Int) : hf_M Int := hf_fx (fun rec s => B_X12_digitOf_6 x2 x3 rec s.1 s.2) hf_N (x4, x5)
def f_X12_digitOf (x0 x1 x2 x3 : Int) : hf_M Int :=
  f_X12_digitOf_6 x2 x3 x1 0
theorem cal_X12_digitOf : hf_cv M_X12_digitOf 12 3 := ⟨⟨ii_X12, kc_X12_digitOf, by decide, by decide, by decide +kernel⟩, ki_X12_digitOf, kv_X12_digitOf, _, rfl, rfl⟩
set_option maxRecDepth 20000 in
theorem jb_X12_digitOf_6 (x2 x3 : Int) (rec_6 : Int × Int → hf_M Int) (hrec_6 : ∀ s : Int × Int, hf_J M_X12_digitOf 6 [(2, 0, x2), (3, 0, x3), (4, 0, s.1), (5, 0, s.2)] [] (rec_6 s)) (x4 x5 : Int) : hf_J M_X12_digitOf 6 [(2, 0, x2), (3, 0, x3), (4, 0, x4), (5, 0, x5)] [] (B_X12_digitOf_6 x2 x3 rec_6 x4 x5) := by
  refine hf_ild (pc := 6) 3 rfl dX12_digitOf_6 ?_
  refine hf_ild_n (pc := 8) 0 rfl rfl dX12_digitOf_8 ?_
  refine hf_icmp_ge (pc := 9) 24 dX12_digitOf_9 rfl ?_ ?_
  · refine hf_ild (pc := 24) 2 rfl dX12_digitOf_24 ?_
    refine hf_ild_n (pc := 26) 1 rfl rfl dX12_digitOf_26 ?_
    refine hf_irem (pc := 27) dX12_digitOf_27 (fun v27 => ?_)
    exact hf_Jret (pc := 28) dX12_digitOf_28 (fun _ => rfl)
  · refine hf_ild (pc := 12) 2 rfl dX12_digitOf_12 ?_
    refine hf_ild_n (pc := 14) 1 rfl rfl dX12_digitOf_14 ?_
    refine hf_idiv (pc := 15) dX12_digitOf_15 (fun v15 => ?_)
    refine hf_ist (pc := 16) (lv' := [(4, 0, v15), (2, 0, x2), (3, 0, x3), (5, 0, x5)]) (by decide) rfl dX12_digitOf_16 ?_
    refine hf_iincB (pc := 18) (fun y => [(5, 0, y), (4, 0, v15), (2, 0, x2), (3, 0, x3)]) (q := 3) rfl (by decide) (fun _ => rfl) dX12_digitOf_18 (fun x5_18 => ?_)
    refine hf_goto (pc := 21) 6 dX12_digitOf_21 rfl ?_
    exact hf_sub [2, 3, 1, 0] rfl (hrec_6 (v15, x5_18))
set_option maxRecDepth 20000 in
theorem j_X12_digitOf_6 (x2 x3 x4 x5 : Int) : hf_J M_X12_digitOf 6 [(2, 0, x2), (3, 0, x3), (4, 0, x4), (5, 0, x5)] [] (f_X12_digitOf_6 x2 x3 x4 x5) :=
  hf_Jfx (L := fun s => [(2, 0, x2), (3, 0, x3), (4, 0, s.1), (5, 0, s.2)]) (fun rec hrec s => jb_X12_digitOf_6 x2 x3 rec hrec s.1 s.2) hf_N (x4, x5)
set_option maxRecDepth 20000 in
theorem c_X12_digitOf (x0 x1 x2 x3 : Int) : hf_Met M_X12_digitOf [2, 0, 0, 0] [x0, x1, x2, x3] (f_X12_digitOf x0 x1 x2 x3) := by
  refine hf_met rfl (by decide) (by decide) (by decide) ?_
  show hf_J M_X12_digitOf 0 [(0, 2, x0), (1, 0, x1), (2, 0, x2), (3, 0, x3)] [] _
  refine hf_ild_n (pc := 0) 1 rfl rfl dX12_digitOf_0 ?_
  refine hf_ist (pc := 1) (lv' := [(4, 0, x1), (0, 2, x0), (1, 0, x1), (2, 0, x2), (3, 0, x3)]) (by decide) rfl dX12_digitOf_1 ?_
  refine hf_iconst (pc := 3) dX12_digitOf_3 ?_
  refine hf_ist (pc := 4) (lv' := [(5, 0, 0), (4, 0, x1), (0, 2, x0), (1, 0, x1), (2, 0, x2), (3, 0, x3)]) (by decide) rfl dX12_digitOf_4 ?_
  exact hf_sub [4, 5, 1, 0] rfl (j_X12_digitOf_6 x2 x3 x1 0)
/-! HighFallModel.canBe(III)I -/
def M_X12_canBe : hf_D := (yX12_canBe, cX12_canBe, 6, some .int, 1, 25)
def B_X12_canBe_6 (x0 x1 x2 x3 : Int) (rec_6 : Int × Int → hf_M Int) (x4 x5 : Int) : hf_M Int :=
  hf_cb x5 x2 (x2 < x5) (hf_ret x4) (hf_bd (hf_ob 12 x0 (f_X12_digitOf x0 x1 x5 x3)) (fun v19 => hf_ck (hf_inI v19 ∧ hf_inI (x3 - 1)) (hf_bd (hf_ret (if (x3 - 1) ≤ v19 then 0 else 1)) (fun w33 => hf_bd (hf_ret (x4 + w33)) (fun x4_34 => hf_bd (hf_ret (x5 + 1)) (fun x5_36 => rec_6 (x4_34, x5_36)))))))
def f_X12_canBe_6 (x0 x1 x2 x3 x4 x5 : Int) : hf_M Int := hf_fx (fun rec s => B_X12_canBe_6 x0 x1 x2 x3 rec s.1 s.2) hf_N (x4, x5)
def f_X12_canBe (x0 x1 x2 x3 : Int) : hf_M Int :=
  f_X12_canBe_6 x0 x1 x2 x3 0 0
theorem cal_X12_canBe : hf_cv M_X12_canBe 12 3 := ⟨⟨ii_X12, kc_X12_canBe, by decide, by decide, by decide +kernel⟩, ki_X12_canBe, kv_X12_canBe, _, rfl, rfl⟩
set_option maxRecDepth 20000 in
theorem jb_X12_canBe_6 (x0 x1 x2 x3 : Int) (rec_6 : Int × Int → hf_M Int) (hrec_6 : ∀ s : Int × Int, hf_J M_X12_canBe 6 [(0, 2, x0), (1, 0, x1), (2, 0, x2), (3, 0, x3), (4, 0, s.1), (5, 0, s.2)] [] (rec_6 s)) (x4 x5 : Int) : hf_J M_X12_canBe 6 [(0, 2, x0), (1, 0, x1), (2, 0, x2), (3, 0, x3), (4, 0, x4), (5, 0, x5)] [] (B_X12_canBe_6 x0 x1 x2 x3 rec_6 x4 x5) := by
  refine hf_ild (pc := 6) 5 rfl dX12_canBe_6 ?_
  refine hf_ild_n (pc := 8) 2 rfl rfl dX12_canBe_8 ?_
  refine hf_icmp_gt (pc := 9) 42 dX12_canBe_9 rfl ?_ ?_
  · refine hf_ild (pc := 42) 4 rfl dX12_canBe_42 ?_
    exact hf_Jret (pc := 44) dX12_canBe_44 (fun _ => rfl)
  · refine hf_ild (pc := 12) 4 rfl dX12_canBe_12 ?_
    refine hf_ald_n (pc := 14) 0 rfl rfl dX12_canBe_14 ?_
    refine hf_ild_n (pc := 15) 1 rfl rfl dX12_canBe_15 ?_
    refine hf_ild (pc := 16) 5 rfl dX12_canBe_16 ?_
    refine hf_ild_n (pc := 18) 3 rfl rfl dX12_canBe_18 ?_
    refine hf_cV (pc := 19) (N := M_X12_digitOf) (ts := [0, 0, 0]) (vs := [x1, x5, x3]) (st := [(0, x4)]) (fun r => [(0, r), (0, x4)]) (c_X12_digitOf x0 x1 x5 x3) cal_X12_digitOf ml_X12_380 ⟨hf_le rfl, hf_le rfl⟩ (hf_le rfl) ⟨rfl, rfl⟩ rfl dX12_canBe_19 (fun _ => rfl) (fun v19 => ?_)
    refine hf_ild_n (pc := 22) 3 rfl rfl dX12_canBe_22 ?_
    refine hf_iconst (pc := 23) dX12_canBe_23 ?_
    refine hf_isub (pc := 24) dX12_canBe_24 ?_
    refine hf_Jdib (pc := 25) (pcM := 33) (t := 0) (stM := [(0, x4)]) (fun w33 => ?_) (fun a1 a2 => ?_)
    · refine hf_iadd (pc := 33) dX12_canBe_33 ?_
      refine hf_istB (pc := 34) (fun y => [(4, 0, y), (0, 2, x0), (1, 0, x1), (2, 0, x2), (3, 0, x3), (5, 0, x5)]) (by decide) (fun _ => rfl) dX12_canBe_34 (fun x4_34 => ?_)
      refine hf_iincB (pc := 36) (fun y => [(5, 0, y), (4, 0, x4_34), (0, 2, x0), (1, 0, x1), (2, 0, x2), (3, 0, x3)]) (q := 5) rfl (by decide) (fun _ => rfl) dX12_canBe_36 (fun x5_36 => ?_)
      refine hf_goto (pc := 39) 6 dX12_canBe_39 rfl ?_
      exact hf_sub [2, 3, 4, 5, 1, 0] rfl (hrec_6 (x4_34, x5_36))
    · refine hf_icmp_ge (pc := 25) 32 dX12_canBe_25 rfl ?_ ?_
      · refine hf_iconst (pc := 32) dX12_canBe_32 ?_
        exact a1
      · refine hf_iconst (pc := 28) dX12_canBe_28 ?_
        refine hf_goto (pc := 29) 33 dX12_canBe_29 rfl ?_
        exact a2
set_option maxRecDepth 20000 in
theorem j_X12_canBe_6 (x0 x1 x2 x3 x4 x5 : Int) : hf_J M_X12_canBe 6 [(0, 2, x0), (1, 0, x1), (2, 0, x2), (3, 0, x3), (4, 0, x4), (5, 0, x5)] [] (f_X12_canBe_6 x0 x1 x2 x3 x4 x5) :=
  hf_Jfx (L := fun s => [(0, 2, x0), (1, 0, x1), (2, 0, x2), (3, 0, x3), (4, 0, s.1), (5, 0, s.2)]) (fun rec hrec s => jb_X12_canBe_6 x0 x1 x2 x3 rec hrec s.1 s.2) hf_N (x4, x5)
set_option maxRecDepth 20000 in
theorem c_X12_canBe (x0 x1 x2 x3 : Int) : hf_Met M_X12_canBe [2, 0, 0, 0] [x0, x1, x2, x3] (f_X12_canBe x0 x1 x2 x3) := by
  refine hf_met rfl (by decide) (by decide) (by decide) ?_
  show hf_J M_X12_canBe 0 [(0, 2, x0), (1, 0, x1), (2, 0, x2), (3, 0, x3)] [] _
  refine hf_iconst (pc := 0) dX12_canBe_0 ?_
  refine hf_ist (pc := 1) (lv' := [(4, 0, 0), (0, 2, x0), (1, 0, x1), (2, 0, x2), (3, 0, x3)]) (by decide) rfl dX12_canBe_1 ?_
  refine hf_iconst (pc := 3) dX12_canBe_3 ?_
  refine hf_ist (pc := 4) (lv' := [(5, 0, 0), (4, 0, 0), (0, 2, x0), (1, 0, x1), (2, 0, x2), (3, 0, x3)]) (by decide) rfl dX12_canBe_4 ?_
  exact hf_sub [2, 3, 4, 5, 1, 0] rfl (j_X12_canBe_6 x0 x1 x2 x3 0 0)
/-! HighFallModel.moreLies(IIII)I -/
def M_X12_moreLies : hf_D := (yX12_moreLies, cX12_moreLies, 8, some .int, 1, 25)
def f_X12_moreLies_44 (rec_9 : Int × Int × Int → hf_M Int) (x0 x1 x2 x3 x4 x5 x6 x7 : Int) : hf_M Int :=
  hf_bd (hf_ret (x5 * x4)) (fun x5_49 => hf_bd (hf_ret (x7 + 1)) (fun x7_51 => rec_9 (x5_49, x6, x7_51)))
def B_X12_moreLies_9 (x0 x1 x2 x3 x4 : Int) (rec_9 : Int × Int × Int → hf_M Int) (x5 x6 x7 : Int) : hf_M Int :=
  hf_cb x7 x3 (x3 < x7) (hf_ret x6) (hf_cb x7 x2 (x7 < x2) (f_X12_moreLies_44 rec_9 x0 x1 x2 x3 x4 x5 x6 x7) (hf_bd (hf_ob 12 x0 (f_X12_digitOf x0 x1 x7 x4)) (fun v27 => hf_cb v27 (x4 - 1) ((x4 - 1) ≤ v27) (f_X12_moreLies_44 rec_9 x0 x1 x2 x3 x4 x5 x6 x7) (hf_bd (hf_ret (x6 + x5)) (fun x6_42 => f_X12_moreLies_44 rec_9 x0 x1 x2 x3 x4 x5 x6_42 x7)))))
def f_X12_moreLies_9 (x0 x1 x2 x3 x4 x5 x6 x7 : Int) : hf_M Int := hf_fx (fun rec s => B_X12_moreLies_9 x0 x1 x2 x3 x4 rec s.1 s.2.1 s.2.2) hf_N (x5, x6, x7)
def f_X12_moreLies (x0 x1 x2 x3 x4 : Int) : hf_M Int :=
  f_X12_moreLies_9 x0 x1 x2 x3 x4 1 x1 0
theorem cal_X12_moreLies : hf_cv M_X12_moreLies 12 4 := ⟨⟨ii_X12, kc_X12_moreLies, by decide, by decide, by decide +kernel⟩, ki_X12_moreLies, kv_X12_moreLies, _, rfl, rfl⟩
set_option maxRecDepth 20000 in
theorem j_X12_moreLies_44 (x0 x1 x2 x3 x4 x5 x6 x7 : Int) (rec_9 : Int × Int × Int → hf_M Int) (hrec_9 : ∀ s : Int × Int × Int, hf_J M_X12_moreLies 9 [(0, 2, x0), (1, 0, x1), (2, 0, x2), (3, 0, x3), (4, 0, x4), (5, 0, s.1), (6, 0, s.2.1), (7, 0, s.2.2)] [] (rec_9 s)) : hf_J M_X12_moreLies 44 [(0, 2, x0), (1, 0, x1), (2, 0, x2), (3, 0, x3), (4, 0, x4), (5, 0, x5), (6, 0, x6), (7, 0, x7)] [] (f_X12_moreLies_44 rec_9 x0 x1 x2 x3 x4 x5 x6 x7) := by
  refine hf_ild (pc := 44) 5 rfl dX12_moreLies_44 ?_
  refine hf_ild (pc := 46) 4 rfl dX12_moreLies_46 ?_
  refine hf_imul (pc := 48) dX12_moreLies_48 ?_
  refine hf_istB (pc := 49) (fun y => [(5, 0, y), (0, 2, x0), (1, 0, x1), (2, 0, x2), (3, 0, x3), (4, 0, x4), (6, 0, x6), (7, 0, x7)]) (by decide) (fun _ => rfl) dX12_moreLies_49 (fun x5_49 => ?_)
  refine hf_iincB (pc := 51) (fun y => [(7, 0, y), (5, 0, x5_49), (0, 2, x0), (1, 0, x1), (2, 0, x2), (3, 0, x3), (4, 0, x4), (6, 0, x6)]) (q := 7) rfl (by decide) (fun _ => rfl) dX12_moreLies_51 (fun x7_51 => ?_)
  refine hf_goto (pc := 54) 9 dX12_moreLies_54 rfl ?_
  exact hf_sub [2, 3, 4, 5, 6, 1, 7, 0] rfl (hrec_9 (x5_49, x6, x7_51))
set_option maxRecDepth 20000 in
theorem jb_X12_moreLies_9 (x0 x1 x2 x3 x4 : Int) (rec_9 : Int × Int × Int → hf_M Int) (hrec_9 : ∀ s : Int × Int × Int, hf_J M_X12_moreLies 9 [(0, 2, x0), (1, 0, x1), (2, 0, x2), (3, 0, x3), (4, 0, x4), (5, 0, s.1), (6, 0, s.2.1), (7, 0, s.2.2)] [] (rec_9 s)) (x5 x6 x7 : Int) : hf_J M_X12_moreLies 9 [(0, 2, x0), (1, 0, x1), (2, 0, x2), (3, 0, x3), (4, 0, x4), (5, 0, x5), (6, 0, x6), (7, 0, x7)] [] (B_X12_moreLies_9 x0 x1 x2 x3 x4 rec_9 x5 x6 x7) := by
  refine hf_ild (pc := 9) 7 rfl dX12_moreLies_9 ?_
  refine hf_ild_n (pc := 11) 3 rfl rfl dX12_moreLies_11 ?_
  refine hf_icmp_gt (pc := 12) 57 dX12_moreLies_12 rfl ?_ ?_
  · refine hf_ild (pc := 57) 6 rfl dX12_moreLies_57 ?_
    exact hf_Jret (pc := 59) dX12_moreLies_59 (fun _ => rfl)
  · refine hf_ild (pc := 15) 7 rfl dX12_moreLies_15 ?_
    refine hf_ild_n (pc := 17) 2 rfl rfl dX12_moreLies_17 ?_
    refine hf_icmp_lt (pc := 18) 44 dX12_moreLies_18 rfl ?_ ?_
    · exact hf_sub [0, 1, 2, 3, 4, 5, 6, 7] rfl (j_X12_moreLies_44 x0 x1 x2 x3 x4 x5 x6 x7 rec_9 hrec_9)
    · refine hf_ald_n (pc := 21) 0 rfl rfl dX12_moreLies_21 ?_
      refine hf_ild_n (pc := 22) 1 rfl rfl dX12_moreLies_22 ?_
      refine hf_ild (pc := 23) 7 rfl dX12_moreLies_23 ?_
      refine hf_ild (pc := 25) 4 rfl dX12_moreLies_25 ?_
      refine hf_cV (pc := 27) (N := M_X12_digitOf) (ts := [0, 0, 0]) (vs := [x1, x7, x4]) (st := []) (fun r => [(0, r)]) (c_X12_digitOf x0 x1 x7 x4) cal_X12_digitOf ml_X12_380 ⟨hf_le rfl, hf_le rfl⟩ (hf_le rfl) ⟨rfl, rfl⟩ rfl dX12_moreLies_27 (fun _ => rfl) (fun v27 => ?_)
      refine hf_ild (pc := 30) 4 rfl dX12_moreLies_30 ?_
      refine hf_iconst (pc := 32) dX12_moreLies_32 ?_
      refine hf_isub (pc := 33) dX12_moreLies_33 ?_
      refine hf_icmp_ge (pc := 34) 44 dX12_moreLies_34 rfl ?_ ?_
      · exact hf_sub [0, 1, 2, 3, 4, 5, 6, 7] rfl (j_X12_moreLies_44 x0 x1 x2 x3 x4 x5 x6 x7 rec_9 hrec_9)
      · refine hf_ild (pc := 37) 6 rfl dX12_moreLies_37 ?_
        refine hf_ild (pc := 39) 5 rfl dX12_moreLies_39 ?_
        refine hf_iadd (pc := 41) dX12_moreLies_41 ?_
        refine hf_istB (pc := 42) (fun y => [(6, 0, y), (0, 2, x0), (1, 0, x1), (2, 0, x2), (3, 0, x3), (4, 0, x4), (5, 0, x5), (7, 0, x7)]) (by decide) (fun _ => rfl) dX12_moreLies_42 (fun x6_42 => ?_)
        exact hf_sub [1, 2, 3, 4, 5, 6, 0, 7] rfl (j_X12_moreLies_44 x0 x1 x2 x3 x4 x5 x6_42 x7 rec_9 hrec_9)
set_option maxRecDepth 20000 in
theorem j_X12_moreLies_9 (x0 x1 x2 x3 x4 x5 x6 x7 : Int) : hf_J M_X12_moreLies 9 [(0, 2, x0), (1, 0, x1), (2, 0, x2), (3, 0, x3), (4, 0, x4), (5, 0, x5), (6, 0, x6), (7, 0, x7)] [] (f_X12_moreLies_9 x0 x1 x2 x3 x4 x5 x6 x7) :=
  hf_Jfx (L := fun s => [(0, 2, x0), (1, 0, x1), (2, 0, x2), (3, 0, x3), (4, 0, x4), (5, 0, s.1), (6, 0, s.2.1), (7, 0, s.2.2)]) (fun rec hrec s => jb_X12_moreLies_9 x0 x1 x2 x3 x4 rec hrec s.1 s.2.1 s.2.2) hf_N (x5, x6, x7)
set_option maxRecDepth 20000 in
theorem c_X12_moreLies (x0 x1 x2 x3 x4 : Int) : hf_Met M_X12_moreLies [2, 0, 0, 0, 0] [x0, x1, x2, x3, x4] (f_X12_moreLies x0 x1 x2 x3 x4) := by
  refine hf_met rfl (by decide) (by decide) (by decide) ?_
  show hf_J M_X12_moreLies 0 [(0, 2, x0), (1, 0, x1), (2, 0, x2), (3, 0, x3), (4, 0, x4)] [] _
  refine hf_iconst (pc := 0) dX12_moreLies_0 ?_
  refine hf_ist (pc := 1) (lv' := [(5, 0, 1), (0, 2, x0), (1, 0, x1), (2, 0, x2), (3, 0, x3), (4, 0, x4)]) (by decide) rfl dX12_moreLies_1 ?_
  refine hf_ild_n (pc := 3) 2 rfl rfl dX12_moreLies_3 ?_
  refine hf_ist (pc := 4) (lv' := [(6, 0, x1), (5, 0, 1), (0, 2, x0), (1, 0, x1), (2, 0, x2), (3, 0, x3), (4, 0, x4)]) (by decide) rfl dX12_moreLies_4 ?_
  refine hf_iconst (pc := 6) dX12_moreLies_6 ?_
  refine hf_ist (pc := 7) (lv' := [(7, 0, 0), (6, 0, x1), (5, 0, 1), (0, 2, x0), (1, 0, x1), (2, 0, x2), (3, 0, x3), (4, 0, x4)]) (by decide) rfl dX12_moreLies_7 ?_
  exact hf_sub [3, 4, 5, 6, 7, 2, 1, 0] rfl (j_X12_moreLies_9 x0 x1 x2 x3 x4 1 x1 0)
/-! HighFallModel.sureFrom(III)I -/
def M_X12_sureFrom : hf_D := (yX12_sureFrom, cX12_sureFrom, 9, some .int, 2, 52)
def f_X12_sureFrom_135 (rec_21 : Int × Int → hf_M Int) (x0 x1 x2 x3 x4 x5 x8 : Int) : hf_M Int :=
  hf_ck (hf_inI (x8 + 1) ∧ hf_inI x4) (hf_bd (hf_ret (if x4 ≤ (x8 + 1) then x4 else (x8 + 1))) (fun w153 => hf_bd (hf_ret (x5 + 1)) (fun x5_155 => rec_21 (w153, x5_155))))
def f_X12_sureFrom_133 (rec_21 : Int × Int → hf_M Int) (x0 x1 x2 x3 x4 x5 s0 : Int) : hf_M Int :=
  f_X12_sureFrom_135 rec_21 x0 x1 x2 x3 x4 x5 s0
def f_X12_sureFrom_86 (rec_21 : Int × Int → hf_M Int) (x0 x1 x2 x3 x4 x5 x7 x8 : Int) : hf_M Int :=
  hf_bd (hf_ob 12 x0 (f_X12_canBe x0 x7 x2 x3)) (fun v91 => hf_cz v91 (v91 ≤ 0) (f_X12_sureFrom_135 rec_21 x0 x1 x2 x3 x4 x5 x8) (hf_cb x7 x1 (¬ x7 = x1) (hf_bd (hf_gf 12 56 x0) (fun v110 => hf_bd (hf_al 20 v110 x7) (fun v115 => hf_cb v115 x8 (v115 ≤ x8) (f_X12_sureFrom_133 rec_21 x0 x1 x2 x3 x4 x5 x8) (hf_bd (hf_gf 12 56 x0) (fun v122 => hf_bd (hf_al 20 v122 x7) (fun v127 => f_X12_sureFrom_133 rec_21 x0 x1 x2 x3 x4 x5 v127)))))) (f_X12_sureFrom_133 rec_21 x0 x1 x2 x3 x4 x5 1000000)))
def f_X12_sureFrom_84 (rec_21 : Int × Int → hf_M Int) (x0 x1 x2 x3 x4 x5 x7 s0 : Int) : hf_M Int :=
  f_X12_sureFrom_86 rec_21 x0 x1 x2 x3 x4 x5 x7 s0
def B_X12_sureFrom_21 (x0 x1 x2 x3 : Int) (rec_21 : Int × Int → hf_M Int) (x4 x5 : Int) : hf_M Int :=
  hf_cb x5 x2 (x2 < x5) (hf_ret x4) (hf_bd (hf_ob 12 x0 (f_X12_moreLies x0 x1 0 (x5 - 1) x3)) (fun v35 => hf_bd (hf_ob 12 x0 (f_X12_moreLies x0 x1 x5 x2 x3)) (fun v46 => hf_bd (hf_ob 12 x0 (f_X12_canBe x0 v35 x2 x3)) (fun v59 => hf_cz v59 (v59 ≤ 0) (f_X12_sureFrom_86 rec_21 x0 x1 x2 x3 x4 x5 v46 0) (hf_cb v35 x1 (¬ v35 = x1) (hf_bd (hf_gf 12 56 x0) (fun v78 => hf_bd (hf_al 20 v78 v35) (fun v83 => f_X12_sureFrom_84 rec_21 x0 x1 x2 x3 x4 x5 v46 v83))) (f_X12_sureFrom_84 rec_21 x0 x1 x2 x3 x4 x5 v46 1000000))))))
def f_X12_sureFrom_21 (x0 x1 x2 x3 x4 x5 : Int) : hf_M Int := hf_fx (fun rec s => B_X12_sureFrom_21 x0 x1 x2 x3 rec s.1 s.2) hf_N (x4, x5)
def f_X12_sureFrom (x0 x1 x2 x3 : Int) : hf_M Int :=
  hf_bd (hf_ob 12 x0 (f_X12_canBe x0 x1 x2 x3)) (fun v4 => hf_cb v4 2 (2 ≤ v4) (f_X12_sureFrom_21 x0 x1 x2 x3 1000000 1) (hf_ret 0))
theorem cal_X12_sureFrom : hf_cv M_X12_sureFrom 12 3 := ⟨⟨ii_X12, kc_X12_sureFrom, by decide, by decide, by decide +kernel⟩, ki_X12_sureFrom, kv_X12_sureFrom, _, rfl, rfl⟩
set_option maxRecDepth 20000 in
theorem j_X12_sureFrom_135 (x0 x1 x2 x3 x4 x5 x8 : Int) (rec_21 : Int × Int → hf_M Int) (hrec_21 : ∀ s : Int × Int, hf_J M_X12_sureFrom 21 [(0, 2, x0), (1, 0, x1), (2, 0, x2), (3, 0, x3), (4, 0, s.1), (5, 0, s.2)] [] (rec_21 s)) : hf_J M_X12_sureFrom 135 [(0, 2, x0), (1, 0, x1), (2, 0, x2), (3, 0, x3), (4, 0, x4), (5, 0, x5), (8, 0, x8)] [] (f_X12_sureFrom_135 rec_21 x0 x1 x2 x3 x4 x5 x8) := by
  refine hf_ild (pc := 135) 6 rfl dX12_sureFrom_135 ?_
  refine hf_iconst (pc := 137) dX12_sureFrom_137 ?_
  refine hf_iadd (pc := 138) dX12_sureFrom_138 ?_
  refine hf_ild (pc := 139) 4 rfl dX12_sureFrom_139 ?_
  refine hf_Jdib (pc := 141) (pcM := 153) (t := 0) (stM := []) (fun w153 => ?_) (fun a1 a2 => ?_)
  · refine hf_ist (pc := 153) (lv' := [(4, 0, w153), (0, 2, x0), (1, 0, x1), (2, 0, x2), (3, 0, x3), (5, 0, x5), (8, 0, x8)]) (by decide) rfl dX12_sureFrom_153 ?_
    refine hf_iincB (pc := 155) (fun y => [(5, 0, y), (4, 0, w153), (0, 2, x0), (1, 0, x1), (2, 0, x2), (3, 0, x3), (8, 0, x8)]) (q := 5) rfl (by decide) (fun _ => rfl) dX12_sureFrom_155 (fun x5_155 => ?_)
    refine hf_goto (pc := 158) 21 dX12_sureFrom_158 rfl ?_
    exact hf_sub [2, 3, 4, 5, 1, 0] rfl (hrec_21 (w153, x5_155))
  · refine hf_icmp_ge (pc := 141) 151 dX12_sureFrom_141 rfl ?_ ?_
    · refine hf_ild (pc := 151) 4 rfl dX12_sureFrom_151 ?_
      exact a1
    · refine hf_ild (pc := 144) 6 rfl dX12_sureFrom_144 ?_
      refine hf_iconst (pc := 146) dX12_sureFrom_146 ?_
      refine hf_iadd (pc := 147) dX12_sureFrom_147 ?_
      refine hf_goto (pc := 148) 153 dX12_sureFrom_148 rfl ?_
      exact a2
set_option maxRecDepth 20000 in
theorem j_X12_sureFrom_133 (x0 x1 x2 x3 x4 x5 s0 : Int) (rec_21 : Int × Int → hf_M Int) (hrec_21 : ∀ s : Int × Int, hf_J M_X12_sureFrom 21 [(0, 2, x0), (1, 0, x1), (2, 0, x2), (3, 0, x3), (4, 0, s.1), (5, 0, s.2)] [] (rec_21 s)) : hf_J M_X12_sureFrom 133 [(0, 2, x0), (1, 0, x1), (2, 0, x2), (3, 0, x3), (4, 0, x4), (5, 0, x5)] [(0, s0)] (f_X12_sureFrom_133 rec_21 x0 x1 x2 x3 x4 x5 s0) := by
  refine hf_ist (pc := 133) (lv' := [(8, 0, s0), (0, 2, x0), (1, 0, x1), (2, 0, x2), (3, 0, x3), (4, 0, x4), (5, 0, x5)]) (by decide) rfl dX12_sureFrom_133 ?_
  exact hf_sub [1, 2, 3, 4, 5, 6, 0] rfl (j_X12_sureFrom_135 x0 x1 x2 x3 x4 x5 s0 rec_21 hrec_21)
set_option maxRecDepth 20000 in
theorem j_X12_sureFrom_86 (x0 x1 x2 x3 x4 x5 x7 x8 : Int) (rec_21 : Int × Int → hf_M Int) (hrec_21 : ∀ s : Int × Int, hf_J M_X12_sureFrom 21 [(0, 2, x0), (1, 0, x1), (2, 0, x2), (3, 0, x3), (4, 0, s.1), (5, 0, s.2)] [] (rec_21 s)) : hf_J M_X12_sureFrom 86 [(0, 2, x0), (1, 0, x1), (2, 0, x2), (3, 0, x3), (4, 0, x4), (5, 0, x5), (7, 0, x7), (8, 0, x8)] [] (f_X12_sureFrom_86 rec_21 x0 x1 x2 x3 x4 x5 x7 x8) := by
  refine hf_ald_n (pc := 86) 0 rfl rfl dX12_sureFrom_86 ?_
  refine hf_ild (pc := 87) 6 rfl dX12_sureFrom_87 ?_
  refine hf_ild_n (pc := 89) 2 rfl rfl dX12_sureFrom_89 ?_
  refine hf_ild_n (pc := 90) 3 rfl rfl dX12_sureFrom_90 ?_
  refine hf_cV (pc := 91) (N := M_X12_canBe) (ts := [0, 0, 0]) (vs := [x7, x2, x3]) (st := []) (fun r => [(0, r)]) (c_X12_canBe x0 x7 x2 x3) cal_X12_canBe ml_X12_384 ⟨hf_le rfl, hf_le rfl⟩ (hf_le rfl) ⟨rfl, rfl⟩ rfl dX12_sureFrom_91 (fun _ => rfl) (fun v91 => ?_)
  refine hf_if_le (pc := 94) 135 dX12_sureFrom_94 rfl ?_ ?_
  · exact hf_sub [0, 1, 2, 3, 4, 5, 7] rfl (j_X12_sureFrom_135 x0 x1 x2 x3 x4 x5 x8 rec_21 hrec_21)
  · refine hf_ild (pc := 97) 6 rfl dX12_sureFrom_97 ?_
    refine hf_ild_n (pc := 99) 1 rfl rfl dX12_sureFrom_99 ?_
    refine hf_icmp_ne (pc := 100) 109 dX12_sureFrom_100 rfl ?_ ?_
    · refine hf_ald_n (pc := 109) 0 rfl rfl dX12_sureFrom_109 ?_
      refine hf_getf (pc := 110) fl_X12_99 dX12_sureFrom_110 (fun v110 => ?_)
      refine hf_ild (pc := 113) 6 rfl dX12_sureFrom_113 ?_
      refine hf_iald (pc := 115) dX12_sureFrom_115 (fun v115 => ?_)
      refine hf_ild (pc := 116) 7 rfl dX12_sureFrom_116 ?_
      refine hf_icmp_le (pc := 118) 131 dX12_sureFrom_118 rfl ?_ ?_
      · refine hf_ild (pc := 131) 7 rfl dX12_sureFrom_131 ?_
        exact hf_sub [0, 1, 2, 3, 4, 5] rfl (j_X12_sureFrom_133 x0 x1 x2 x3 x4 x5 x8 rec_21 hrec_21)
      · refine hf_ald_n (pc := 121) 0 rfl rfl dX12_sureFrom_121 ?_
        refine hf_getf (pc := 122) fl_X12_99 dX12_sureFrom_122 (fun v122 => ?_)
        refine hf_ild (pc := 125) 6 rfl dX12_sureFrom_125 ?_
        refine hf_iald (pc := 127) dX12_sureFrom_127 (fun v127 => ?_)
        refine hf_goto (pc := 128) 133 dX12_sureFrom_128 rfl ?_
        exact hf_sub [0, 1, 2, 3, 4, 5] rfl (j_X12_sureFrom_133 x0 x1 x2 x3 x4 x5 v127 rec_21 hrec_21)
    · refine hf_ldcw (pc := 103) (n := 1000000) co_X12_371 (by decide) dX12_sureFrom_103 ?_
      refine hf_goto (pc := 106) 133 dX12_sureFrom_106 rfl ?_
      exact hf_sub [0, 1, 2, 3, 4, 5] rfl (j_X12_sureFrom_133 x0 x1 x2 x3 x4 x5 1000000 rec_21 hrec_21)
set_option maxRecDepth 20000 in
theorem j_X12_sureFrom_84 (x0 x1 x2 x3 x4 x5 x7 s0 : Int) (rec_21 : Int × Int → hf_M Int) (hrec_21 : ∀ s : Int × Int, hf_J M_X12_sureFrom 21 [(0, 2, x0), (1, 0, x1), (2, 0, x2), (3, 0, x3), (4, 0, s.1), (5, 0, s.2)] [] (rec_21 s)) : hf_J M_X12_sureFrom 84 [(0, 2, x0), (1, 0, x1), (2, 0, x2), (3, 0, x3), (4, 0, x4), (5, 0, x5), (7, 0, x7)] [(0, s0)] (f_X12_sureFrom_84 rec_21 x0 x1 x2 x3 x4 x5 x7 s0) := by
  refine hf_ist (pc := 84) (lv' := [(8, 0, s0), (0, 2, x0), (1, 0, x1), (2, 0, x2), (3, 0, x3), (4, 0, x4), (5, 0, x5), (7, 0, x7)]) (by decide) rfl dX12_sureFrom_84 ?_
  exact hf_sub [1, 2, 3, 4, 5, 6, 7, 0] rfl (j_X12_sureFrom_86 x0 x1 x2 x3 x4 x5 x7 s0 rec_21 hrec_21)
set_option maxRecDepth 20000 in
theorem jb_X12_sureFrom_21 (x0 x1 x2 x3 : Int) (rec_21 : Int × Int → hf_M Int) (hrec_21 : ∀ s : Int × Int, hf_J M_X12_sureFrom 21 [(0, 2, x0), (1, 0, x1), (2, 0, x2), (3, 0, x3), (4, 0, s.1), (5, 0, s.2)] [] (rec_21 s)) (x4 x5 : Int) : hf_J M_X12_sureFrom 21 [(0, 2, x0), (1, 0, x1), (2, 0, x2), (3, 0, x3), (4, 0, x4), (5, 0, x5)] [] (B_X12_sureFrom_21 x0 x1 x2 x3 rec_21 x4 x5) := by
  refine hf_ild (pc := 21) 5 rfl dX12_sureFrom_21 ?_
  refine hf_ild_n (pc := 23) 2 rfl rfl dX12_sureFrom_23 ?_
  refine hf_icmp_gt (pc := 24) 161 dX12_sureFrom_24 rfl ?_ ?_
  · refine hf_ild (pc := 161) 4 rfl dX12_sureFrom_161 ?_
    exact hf_Jret (pc := 163) dX12_sureFrom_163 (fun _ => rfl)
  · refine hf_ald_n (pc := 27) 0 rfl rfl dX12_sureFrom_27 ?_
    refine hf_ild_n (pc := 28) 1 rfl rfl dX12_sureFrom_28 ?_
    refine hf_iconst (pc := 29) dX12_sureFrom_29 ?_
    refine hf_ild (pc := 30) 5 rfl dX12_sureFrom_30 ?_
    refine hf_iconst (pc := 32) dX12_sureFrom_32 ?_
    refine hf_isub (pc := 33) dX12_sureFrom_33 ?_
    refine hf_ild_n (pc := 34) 3 rfl rfl dX12_sureFrom_34 ?_
    refine hf_cV (pc := 35) (N := M_X12_moreLies) (ts := [0, 0, 0, 0]) (vs := [x1, 0, (x5 - 1), x3]) (st := []) (fun r => [(0, r)]) (c_X12_moreLies x0 x1 0 (x5 - 1) x3) cal_X12_moreLies ml_X12_387 ⟨hf_le rfl, hf_le rfl⟩ (hf_le rfl) ⟨rfl, rfl⟩ rfl dX12_sureFrom_35 (fun _ => rfl) (fun v35 => ?_)
    refine hf_ist (pc := 38) (lv' := [(6, 0, v35), (0, 2, x0), (1, 0, x1), (2, 0, x2), (3, 0, x3), (4, 0, x4), (5, 0, x5)]) (by decide) rfl dX12_sureFrom_38 ?_
    refine hf_ald_n (pc := 40) 1 rfl rfl dX12_sureFrom_40 ?_
    refine hf_ild_n (pc := 41) 2 rfl rfl dX12_sureFrom_41 ?_
    refine hf_ild (pc := 42) 6 rfl dX12_sureFrom_42 ?_
    refine hf_ild_n (pc := 44) 3 rfl rfl dX12_sureFrom_44 ?_
    refine hf_ild_n (pc := 45) 4 rfl rfl dX12_sureFrom_45 ?_
    refine hf_cV (pc := 46) (N := M_X12_moreLies) (ts := [0, 0, 0, 0]) (vs := [x1, x5, x2, x3]) (st := []) (fun r => [(0, r)]) (c_X12_moreLies x0 x1 x5 x2 x3) cal_X12_moreLies ml_X12_387 ⟨hf_le rfl, hf_le rfl⟩ (hf_le rfl) ⟨rfl, rfl⟩ rfl dX12_sureFrom_46 (fun _ => rfl) (fun v46 => ?_)
    refine hf_ist (pc := 49) (lv' := [(7, 0, v46), (6, 0, v35), (0, 2, x0), (1, 0, x1), (2, 0, x2), (3, 0, x3), (4, 0, x4), (5, 0, x5)]) (by decide) rfl dX12_sureFrom_49 ?_
    refine hf_iconst (pc := 51) dX12_sureFrom_51 ?_
    refine hf_ist (pc := 52) (lv' := [(8, 0, 0), (7, 0, v46), (6, 0, v35), (0, 2, x0), (1, 0, x1), (2, 0, x2), (3, 0, x3), (4, 0, x4), (5, 0, x5)]) (by decide) rfl dX12_sureFrom_52 ?_
    refine hf_ald_n (pc := 54) 3 rfl rfl dX12_sureFrom_54 ?_
    refine hf_ild (pc := 55) 2 rfl dX12_sureFrom_55 ?_
    refine hf_ild_n (pc := 57) 5 rfl rfl dX12_sureFrom_57 ?_
    refine hf_ild_n (pc := 58) 6 rfl rfl dX12_sureFrom_58 ?_
    refine hf_cV (pc := 59) (N := M_X12_canBe) (ts := [0, 0, 0]) (vs := [v35, x2, x3]) (st := []) (fun r => [(0, r)]) (c_X12_canBe x0 v35 x2 x3) cal_X12_canBe ml_X12_384 ⟨hf_le rfl, hf_le rfl⟩ (hf_le rfl) ⟨rfl, rfl⟩ rfl dX12_sureFrom_59 (fun _ => rfl) (fun v59 => ?_)
    refine hf_if_le (pc := 62) 86 dX12_sureFrom_62 rfl ?_ ?_
    · exact hf_sub [3, 4, 5, 6, 7, 8, 1, 0] rfl (j_X12_sureFrom_86 x0 x1 x2 x3 x4 x5 v46 0 rec_21 hrec_21)
    · refine hf_ild (pc := 65) 2 rfl dX12_sureFrom_65 ?_
      refine hf_ild_n (pc := 67) 4 rfl rfl dX12_sureFrom_67 ?_
      refine hf_icmp_ne (pc := 68) 77 dX12_sureFrom_68 rfl ?_ ?_
      · refine hf_ald_n (pc := 77) 3 rfl rfl dX12_sureFrom_77 ?_
        refine hf_getf (pc := 78) fl_X12_99 dX12_sureFrom_78 (fun v78 => ?_)
        refine hf_ild (pc := 81) 2 rfl dX12_sureFrom_81 ?_
        refine hf_iald (pc := 83) dX12_sureFrom_83 (fun v83 => ?_)
        exact hf_sub [3, 4, 5, 6, 7, 8, 1] rfl (j_X12_sureFrom_84 x0 x1 x2 x3 x4 x5 v46 v83 rec_21 hrec_21)
      · refine hf_ldcw (pc := 71) (n := 1000000) co_X12_371 (by decide) dX12_sureFrom_71 ?_
        refine hf_goto (pc := 74) 84 dX12_sureFrom_74 rfl ?_
        exact hf_sub [3, 4, 5, 6, 7, 8, 1] rfl (j_X12_sureFrom_84 x0 x1 x2 x3 x4 x5 v46 1000000 rec_21 hrec_21)
set_option maxRecDepth 20000 in
theorem j_X12_sureFrom_21 (x0 x1 x2 x3 x4 x5 : Int) : hf_J M_X12_sureFrom 21 [(0, 2, x0), (1, 0, x1), (2, 0, x2), (3, 0, x3), (4, 0, x4), (5, 0, x5)] [] (f_X12_sureFrom_21 x0 x1 x2 x3 x4 x5) :=
  hf_Jfx (L := fun s => [(0, 2, x0), (1, 0, x1), (2, 0, x2), (3, 0, x3), (4, 0, s.1), (5, 0, s.2)]) (fun rec hrec s => jb_X12_sureFrom_21 x0 x1 x2 x3 rec hrec s.1 s.2) hf_N (x4, x5)
set_option maxRecDepth 20000 in
theorem c_X12_sureFrom (x0 x1 x2 x3 : Int) : hf_Met M_X12_sureFrom [2, 0, 0, 0] [x0, x1, x2, x3] (f_X12_sureFrom x0 x1 x2 x3) := by
  refine hf_met rfl (by decide) (by decide) (by decide) ?_
  show hf_J M_X12_sureFrom 0 [(0, 2, x0), (1, 0, x1), (2, 0, x2), (3, 0, x3)] [] _
  refine hf_ald_n (pc := 0) 0 rfl rfl dX12_sureFrom_0 ?_
  refine hf_ild_n (pc := 1) 1 rfl rfl dX12_sureFrom_1 ?_
  refine hf_ild_n (pc := 2) 2 rfl rfl dX12_sureFrom_2 ?_
  refine hf_ild_n (pc := 3) 3 rfl rfl dX12_sureFrom_3 ?_
  refine hf_cV (pc := 4) (N := M_X12_canBe) (ts := [0, 0, 0]) (vs := [x1, x2, x3]) (st := []) (fun r => [(0, r)]) (c_X12_canBe x0 x1 x2 x3) cal_X12_canBe ml_X12_384 ⟨hf_le rfl, hf_le rfl⟩ (hf_le rfl) ⟨rfl, rfl⟩ rfl dX12_sureFrom_4 (fun _ => rfl) (fun v4 => ?_)
  refine hf_iconst (pc := 7) dX12_sureFrom_7 ?_
  refine hf_icmp_ge (pc := 8) 13 dX12_sureFrom_8 rfl ?_ ?_
  · refine hf_ldcw (pc := 13) (n := 1000000) co_X12_371 (by decide) dX12_sureFrom_13 ?_
    refine hf_ist (pc := 16) (lv' := [(4, 0, 1000000), (0, 2, x0), (1, 0, x1), (2, 0, x2), (3, 0, x3)]) (by decide) rfl dX12_sureFrom_16 ?_
    refine hf_iconst (pc := 18) dX12_sureFrom_18 ?_
    refine hf_ist (pc := 19) (lv' := [(5, 0, 1), (4, 0, 1000000), (0, 2, x0), (1, 0, x1), (2, 0, x2), (3, 0, x3)]) (by decide) rfl dX12_sureFrom_19 ?_
    exact hf_sub [2, 3, 4, 5, 1, 0] rfl (j_X12_sureFrom_21 x0 x1 x2 x3 1000000 1)
  · refine hf_iconst (pc := 11) dX12_sureFrom_11 ?_
    exact hf_Jret (pc := 12) dX12_sureFrom_12 (fun _ => rfl)
/-! HighFallModel.lies(II)I -/
def M_X12_lies : hf_D := (yX12_lies, cX12_lies, 6, some .int, 3, 80)
def B_X12_lies_60 (x0 x1 x3 : Int) (rec_60 : Int → hf_M Int) (x5 : Int) : hf_M Int :=
  hf_cz x5 (x5 < 0) (hf_bd (hf_gf 12 56 x0) (fun v87 => hf_bd (hf_al 20 v87 0) (fun v91 => hf_ret v91))) (hf_bd (hf_gf 12 56 x0) (fun v66 => hf_bd (hf_ob 12 x0 (f_X12_sureFrom x0 x5 x1 x3)) (fun v76 => hf_bd (hf_as 20 v66 x5 v76) (fun _ => hf_bd (hf_ret (x5 + (-1))) (fun x5_80 => rec_60 x5_80)))))
def f_X12_lies_60 (x0 x1 x3 x5 : Int) : hf_M Int := hf_fx (fun rec s => B_X12_lies_60 x0 x1 x3 rec s) hf_N x5
def B_X12_lies_36 (x0 x1 x3 : Int) (rec_36 : Int × Int → hf_M Int) (x4 x5 : Int) : hf_M Int :=
  hf_cb x5 x1 (x1 < x5) (hf_bd (hf_ret (x4 - 1)) (fun x5_58 => f_X12_lies_60 x0 x1 x3 x5_58)) (hf_bd (hf_ret (x4 * x3)) (fun x4_46 => hf_bd (hf_ret (x5 + 1)) (fun x5_48 => rec_36 (x4_46, x5_48))))
def f_X12_lies_36 (x0 x1 x3 x4 x5 : Int) : hf_M Int := hf_fx (fun rec s => B_X12_lies_36 x0 x1 x3 rec s.1 s.2) hf_N (x4, x5)
def f_X12_lies (x0 x1 x2 : Int) : hf_M Int :=
  hf_bd (hf_pf 12 2 x0 0) (fun _ => hf_bd (f_X12_isIn x1 1 7) (fun v9 => hf_cz v9 (v9 = 0) (hf_ret (-1)) (hf_bd (f_X12_isIn x2 0 2) (fun v18 => hf_cz v18 (¬ v18 = 0) (hf_bd (hf_ret (x2 + 2)) (fun x3_29 => f_X12_lies_36 x0 x1 x3_29 1 0)) (hf_ret (-1))))))
theorem cal_X12_lies : hf_cv M_X12_lies 12 2 := ⟨⟨ii_X12, kc_X12_lies, by decide, by decide, by decide +kernel⟩, ki_X12_lies, kv_X12_lies, _, rfl, rfl⟩
set_option maxRecDepth 20000 in
theorem jb_X12_lies_60 (x0 x1 x3 : Int) (rec_60 : Int → hf_M Int) (hrec_60 : ∀ s : Int, hf_J M_X12_lies 60 [(0, 2, x0), (1, 0, x1), (3, 0, x3), (5, 0, s)] [] (rec_60 s)) (x5 : Int) : hf_J M_X12_lies 60 [(0, 2, x0), (1, 0, x1), (3, 0, x3), (5, 0, x5)] [] (B_X12_lies_60 x0 x1 x3 rec_60 x5) := by
  refine hf_ild (pc := 60) 3 rfl dX12_lies_60 ?_
  refine hf_if_lt (pc := 62) 86 dX12_lies_62 rfl ?_ ?_
  · refine hf_ald_n (pc := 86) 0 rfl rfl dX12_lies_86 ?_
    refine hf_getf (pc := 87) fl_X12_99 dX12_lies_87 (fun v87 => ?_)
    refine hf_iconst (pc := 90) dX12_lies_90 ?_
    refine hf_iald (pc := 91) dX12_lies_91 (fun v91 => ?_)
    exact hf_Jret (pc := 92) dX12_lies_92 (fun _ => rfl)
  · refine hf_ald_n (pc := 65) 0 rfl rfl dX12_lies_65 ?_
    refine hf_getf (pc := 66) fl_X12_99 dX12_lies_66 (fun v66 => ?_)
    refine hf_ild (pc := 69) 3 rfl dX12_lies_69 ?_
    refine hf_ald_n (pc := 71) 0 rfl rfl dX12_lies_71 ?_
    refine hf_ild (pc := 72) 3 rfl dX12_lies_72 ?_
    refine hf_ild_n (pc := 74) 1 rfl rfl dX12_lies_74 ?_
    refine hf_ild_n (pc := 75) 2 rfl rfl dX12_lies_75 ?_
    refine hf_cV (pc := 76) (N := M_X12_sureFrom) (ts := [0, 0, 0]) (vs := [x5, x1, x3]) (st := [(0, x5), (2, v66)]) (fun r => [(0, r), (0, x5), (2, v66)]) (c_X12_sureFrom x0 x5 x1 x3) cal_X12_sureFrom ml_X12_390 ⟨hf_le rfl, hf_le rfl⟩ (hf_le rfl) ⟨rfl, rfl⟩ rfl dX12_lies_76 (fun _ => rfl) (fun v76 => ?_)
    refine hf_iast (pc := 79) dX12_lies_79 ?_
    refine hf_iincB (pc := 80) (fun y => [(5, 0, y), (0, 2, x0), (1, 0, x1), (3, 0, x3)]) (q := 3) rfl (by decide) (fun _ => rfl) dX12_lies_80 (fun x5_80 => ?_)
    refine hf_goto (pc := 83) 60 dX12_lies_83 rfl ?_
    exact hf_sub [1, 2, 3, 0] rfl (hrec_60 x5_80)
set_option maxRecDepth 20000 in
theorem j_X12_lies_60 (x0 x1 x3 x5 : Int) : hf_J M_X12_lies 60 [(0, 2, x0), (1, 0, x1), (3, 0, x3), (5, 0, x5)] [] (f_X12_lies_60 x0 x1 x3 x5) :=
  hf_Jfx (L := fun s => [(0, 2, x0), (1, 0, x1), (3, 0, x3), (5, 0, s)]) (fun rec hrec s => jb_X12_lies_60 x0 x1 x3 rec hrec s) hf_N x5
set_option maxRecDepth 20000 in
theorem jb_X12_lies_36 (x0 x1 x3 : Int) (rec_36 : Int × Int → hf_M Int) (hrec_36 : ∀ s : Int × Int, hf_J M_X12_lies 36 [(0, 2, x0), (1, 0, x1), (3, 0, x3), (4, 0, s.1), (5, 0, s.2)] [] (rec_36 s)) (x4 x5 : Int) : hf_J M_X12_lies 36 [(0, 2, x0), (1, 0, x1), (3, 0, x3), (4, 0, x4), (5, 0, x5)] [] (B_X12_lies_36 x0 x1 x3 rec_36 x4 x5) := by
  refine hf_ild (pc := 36) 4 rfl dX12_lies_36 ?_
  refine hf_ild_n (pc := 38) 1 rfl rfl dX12_lies_38 ?_
  refine hf_icmp_gt (pc := 39) 54 dX12_lies_39 rfl ?_ ?_
  · refine hf_ild (pc := 54) 3 rfl dX12_lies_54 ?_
    refine hf_iconst (pc := 56) dX12_lies_56 ?_
    refine hf_isub (pc := 57) dX12_lies_57 ?_
    refine hf_istB (pc := 58) (fun y => [(5, 0, y), (0, 2, x0), (1, 0, x1), (3, 0, x3), (4, 0, x4)]) (by decide) (fun _ => rfl) dX12_lies_58 (fun x5_58 => ?_)
    exact hf_sub [1, 2, 3, 0] rfl (j_X12_lies_60 x0 x1 x3 x5_58)
  · refine hf_ild (pc := 42) 3 rfl dX12_lies_42 ?_
    refine hf_ild_n (pc := 44) 2 rfl rfl dX12_lies_44 ?_
    refine hf_imul (pc := 45) dX12_lies_45 ?_
    refine hf_istB (pc := 46) (fun y => [(4, 0, y), (0, 2, x0), (1, 0, x1), (3, 0, x3), (5, 0, x5)]) (by decide) (fun _ => rfl) dX12_lies_46 (fun x4_46 => ?_)
    refine hf_iincB (pc := 48) (fun y => [(5, 0, y), (4, 0, x4_46), (0, 2, x0), (1, 0, x1), (3, 0, x3)]) (q := 4) rfl (by decide) (fun _ => rfl) dX12_lies_48 (fun x5_48 => ?_)
    refine hf_goto (pc := 51) 36 dX12_lies_51 rfl ?_
    exact hf_sub [2, 3, 4, 1, 0] rfl (hrec_36 (x4_46, x5_48))
set_option maxRecDepth 20000 in
theorem j_X12_lies_36 (x0 x1 x3 x4 x5 : Int) : hf_J M_X12_lies 36 [(0, 2, x0), (1, 0, x1), (3, 0, x3), (4, 0, x4), (5, 0, x5)] [] (f_X12_lies_36 x0 x1 x3 x4 x5) :=
  hf_Jfx (L := fun s => [(0, 2, x0), (1, 0, x1), (3, 0, x3), (4, 0, s.1), (5, 0, s.2)]) (fun rec hrec s => jb_X12_lies_36 x0 x1 x3 rec hrec s.1 s.2) hf_N (x4, x5)
set_option maxRecDepth 20000 in
theorem c_X12_lies (x0 x1 x2 : Int) : hf_Met M_X12_lies [2, 0, 0] [x0, x1, x2] (f_X12_lies x0 x1 x2) := by
  refine hf_met rfl (by decide) (by decide) (by decide) ?_
  show hf_J M_X12_lies 0 [(0, 2, x0), (1, 0, x1), (2, 0, x2)] [] _
  refine hf_ald_n (pc := 0) 0 rfl rfl dX12_lies_0 ?_
  refine hf_iconst (pc := 1) dX12_lies_1 ?_
  refine hf_putf (pc := 2) fl_X12_127 trivial dX12_lies_2 ?_
  refine hf_ild_n (pc := 5) 1 rfl rfl dX12_lies_5 ?_
  refine hf_iconst (pc := 6) dX12_lies_6 ?_
  refine hf_bipush (pc := 7) dX12_lies_7 (by decide) ?_
  refine hf_cS (pc := 9) (N := M_X12_isIn) (ts := [0, 0, 0]) (vs := [x1, 1, 7]) (st := []) (fun r => [(0, r)]) (c_X12_isIn x1 1 7) cal_X12_isIn ml_X12_133 ⟨hf_le rfl, hf_le rfl⟩ (hf_le rfl) ⟨rfl, rfl⟩ rfl dX12_lies_9 (fun _ => rfl) (fun v9 => ?_)
  refine hf_if_eq (pc := 12) 24 dX12_lies_12 rfl ?_ ?_
  · refine hf_iconst (pc := 24) dX12_lies_24 ?_
    exact hf_Jret (pc := 25) dX12_lies_25 (fun _ => rfl)
  · refine hf_ild_n (pc := 15) 2 rfl rfl dX12_lies_15 ?_
    refine hf_iconst (pc := 16) dX12_lies_16 ?_
    refine hf_iconst (pc := 17) dX12_lies_17 ?_
    refine hf_cS (pc := 18) (N := M_X12_isIn) (ts := [0, 0, 0]) (vs := [x2, 0, 2]) (st := []) (fun r => [(0, r)]) (c_X12_isIn x2 0 2) cal_X12_isIn ml_X12_133 ⟨hf_le rfl, hf_le rfl⟩ (hf_le rfl) ⟨rfl, rfl⟩ rfl dX12_lies_18 (fun _ => rfl) (fun v18 => ?_)
    refine hf_if_ne (pc := 21) 26 dX12_lies_21 rfl ?_ ?_
    · refine hf_ild_n (pc := 26) 2 rfl rfl dX12_lies_26 ?_
      refine hf_iconst (pc := 27) dX12_lies_27 ?_
      refine hf_iadd (pc := 28) dX12_lies_28 ?_
      refine hf_ist_nB (pc := 29) (fun y => [(3, 0, y), (0, 2, x0), (1, 0, x1), (2, 0, x2)]) rfl (by decide) (fun _ => rfl) dX12_lies_29 (fun x3_29 => ?_)
      refine hf_iconst (pc := 30) dX12_lies_30 ?_
      refine hf_ist (pc := 31) (lv' := [(4, 0, 1), (3, 0, x3_29), (0, 2, x0), (1, 0, x1), (2, 0, x2)]) (by decide) rfl dX12_lies_31 ?_
      refine hf_iconst (pc := 33) dX12_lies_33 ?_
      refine hf_ist (pc := 34) (lv' := [(5, 0, 0), (4, 0, 1), (3, 0, x3_29), (0, 2, x0), (1, 0, x1), (2, 0, x2)]) (by decide) rfl dX12_lies_34 ?_
      exact hf_sub [3, 4, 2, 1, 0] rfl (j_X12_lies_36 x0 x1 x3_29 1 0)
    · refine hf_iconst (pc := 24) dX12_lies_24 ?_
      exact hf_Jret (pc := 25) dX12_lies_25 (fun _ => rfl)
/-! HighFallModel.isStep(I)Z -/
def M_X12_isStep : hf_D := (yX12_isStep, cX12_isStep, 2, some .boolean, 0, 0)
def f_X12_isStep (x0 x1 : Int) : hf_M Int :=
  hf_cb x1 1 (x1 < 1) (hf_ret 0) (hf_bd (hf_gf 12 3 x0) (fun v7 => hf_cb x1 v7 (v7 < x1) (hf_ret 0) (hf_ret 1)))
theorem cal_X12_isStep : hf_cv M_X12_isStep 12 1 := ⟨⟨ii_X12, kc_X12_isStep, by decide, by decide, by decide +kernel⟩, ki_X12_isStep, kv_X12_isStep, _, rfl, rfl⟩
set_option maxRecDepth 20000 in
theorem c_X12_isStep (x0 x1 : Int) : hf_Met M_X12_isStep [2, 0] [x0, x1] (f_X12_isStep x0 x1) := by
  refine hf_met rfl (by decide) (by decide) (by decide) ?_
  show hf_J M_X12_isStep 0 [(0, 2, x0), (1, 0, x1)] [] _
  refine hf_ild_n (pc := 0) 1 rfl rfl dX12_isStep_0 ?_
  refine hf_iconst (pc := 1) dX12_isStep_1 ?_
  refine hf_icmp_lt (pc := 2) 17 dX12_isStep_2 rfl ?_ ?_
  · refine hf_iconst (pc := 17) dX12_isStep_17 ?_
    exact hf_Jret (pc := 18) (r := 0) ⟨dX12_isStep_18, Or.inl rfl⟩ (fun _ => rfl)
  · refine hf_ild_n (pc := 5) 1 rfl rfl dX12_isStep_5 ?_
    refine hf_ald_n (pc := 6) 0 rfl rfl dX12_isStep_6 ?_
    refine hf_getf (pc := 7) fl_X12_13 dX12_isStep_7 (fun v7 => ?_)
    refine hf_icmp_gt (pc := 10) 17 dX12_isStep_10 rfl ?_ ?_
    · refine hf_iconst (pc := 17) dX12_isStep_17 ?_
      exact hf_Jret (pc := 18) (r := 0) ⟨dX12_isStep_18, Or.inl rfl⟩ (fun _ => rfl)
    · refine hf_iconst (pc := 13) dX12_isStep_13 ?_
      refine hf_goto (pc := 14) 18 dX12_isStep_14 rfl ?_
      exact hf_Jret (pc := 18) (r := 1) ⟨dX12_isStep_18, Or.inr rfl⟩ (fun _ => rfl)
/-! HighFallModel.note(IIIZ)I -/
def M_X12_note : hf_D := (yX12_note, cX12_note, 5, some .int, 1, 22)
def f_X12_note (x0 x1 x2 x3 x4 : Int) : hf_M Int :=
  hf_bd (hf_pf 12 2 x0 0) (fun _ => hf_bd (hf_gf 12 57 x0) (fun v6 => hf_cb v6 40 (v6 = 40) (hf_ret (-1)) (hf_bd (f_X12_isIn x1 0 5) (fun v17 => hf_cz v17 (v17 = 0) (hf_ret (-1)) (hf_bd (f_X12_isKind x2) (fun v24 => hf_cz v24 (v24 = 0) (hf_ret (-1)) (hf_bd (hf_ob 12 x0 (f_X12_isStep x0 x3)) (fun v32 => hf_cz v32 (¬ v32 = 0) (hf_bd (hf_gf 12 58 x0) (fun v41 => hf_bd (hf_gf 12 57 x0) (fun v45 => hf_bd (hf_as 20 v41 v45 x1) (fun _ => hf_bd (hf_gf 12 59 x0) (fun v51 => hf_bd (hf_gf 12 57 x0) (fun v55 => hf_bd (hf_as 20 v51 v55 x2) (fun _ => hf_bd (hf_gf 12 60 x0) (fun v61 => hf_bd (hf_gf 12 57 x0) (fun v65 => hf_bd (hf_as 20 v61 v65 x3) (fun _ => hf_bd (hf_gf 12 61 x0) (fun v71 => hf_bd (hf_gf 12 57 x0) (fun v75 => hf_ck (x4 = 0 ∨ x4 = 1) (hf_bd (hf_as 23 v71 v75 x4) (fun _ => hf_bd (hf_gf 12 57 x0) (fun v83 => hf_bd (hf_pf 12 57 x0 (v83 + 1)) (fun _ => hf_bd (hf_gf 12 57 x0) (fun v92 => hf_ret (v92 - 1)))))))))))))))))) (hf_ret (-1))))))))))
theorem cal_X12_note : hf_cv M_X12_note 12 4 := ⟨⟨ii_X12, kc_X12_note, by decide, by decide, by decide +kernel⟩, ki_X12_note, kv_X12_note, _, rfl, rfl⟩
set_option maxRecDepth 20000 in
theorem c_X12_note (x0 x1 x2 x3 x4 : Int) : hf_Met M_X12_note [2, 0, 0, 0, 0] [x0, x1, x2, x3, x4] (f_X12_note x0 x1 x2 x3 x4) := by
  refine hf_met rfl (by decide) (by decide) (by decide) ?_
  show hf_J M_X12_note 0 [(0, 2, x0), (1, 0, x1), (2, 0, x2), (3, 0, x3), (4, 0, x4)] [] _
  refine hf_ald_n (pc := 0) 0 rfl rfl dX12_note_0 ?_
  refine hf_iconst (pc := 1) dX12_note_1 ?_
  refine hf_putf (pc := 2) fl_X12_127 trivial dX12_note_2 ?_
  refine hf_ald_n (pc := 5) 0 rfl rfl dX12_note_5 ?_
  refine hf_getf (pc := 6) fl_X12_137 dX12_note_6 (fun v6 => ?_)
  refine hf_bipush (pc := 9) dX12_note_9 (by decide) ?_
  refine hf_icmp_eq (pc := 11) 38 dX12_note_11 rfl ?_ ?_
  · refine hf_iconst (pc := 38) dX12_note_38 ?_
    exact hf_Jret (pc := 39) dX12_note_39 (fun _ => rfl)
  · refine hf_ild_n (pc := 14) 1 rfl rfl dX12_note_14 ?_
    refine hf_iconst (pc := 15) dX12_note_15 ?_
    refine hf_iconst (pc := 16) dX12_note_16 ?_
    refine hf_cS (pc := 17) (N := M_X12_isIn) (ts := [0, 0, 0]) (vs := [x1, 0, 5]) (st := []) (fun r => [(0, r)]) (c_X12_isIn x1 0 5) cal_X12_isIn ml_X12_133 ⟨hf_le rfl, hf_le rfl⟩ (hf_le rfl) ⟨rfl, rfl⟩ rfl dX12_note_17 (fun _ => rfl) (fun v17 => ?_)
    refine hf_if_eq (pc := 20) 38 dX12_note_20 rfl ?_ ?_
    · refine hf_iconst (pc := 38) dX12_note_38 ?_
      exact hf_Jret (pc := 39) dX12_note_39 (fun _ => rfl)
    · refine hf_ild_n (pc := 23) 2 rfl rfl dX12_note_23 ?_
      refine hf_cS (pc := 24) (N := M_X12_isKind) (ts := [0]) (vs := [x2]) (st := []) (fun r => [(0, r)]) (c_X12_isKind x2) cal_X12_isKind ml_X12_144 ⟨hf_le rfl, hf_le rfl⟩ (hf_le rfl) ⟨rfl, rfl⟩ rfl dX12_note_24 (fun _ => rfl) (fun v24 => ?_)
      refine hf_if_eq (pc := 27) 38 dX12_note_27 rfl ?_ ?_
      · refine hf_iconst (pc := 38) dX12_note_38 ?_
        exact hf_Jret (pc := 39) dX12_note_39 (fun _ => rfl)
      · refine hf_ald_n (pc := 30) 0 rfl rfl dX12_note_30 ?_
        refine hf_ild_n (pc := 31) 3 rfl rfl dX12_note_31 ?_
        refine hf_cV (pc := 32) (N := M_X12_isStep) (ts := [0]) (vs := [x3]) (st := []) (fun r => [(0, r)]) (c_X12_isStep x0 x3) cal_X12_isStep ml_X12_393 ⟨hf_le rfl, hf_le rfl⟩ (hf_le rfl) ⟨rfl, rfl⟩ rfl dX12_note_32 (fun _ => rfl) (fun v32 => ?_)
        refine hf_if_ne (pc := 35) 40 dX12_note_35 rfl ?_ ?_
        · refine hf_ald_n (pc := 40) 0 rfl rfl dX12_note_40 ?_
          refine hf_getf (pc := 41) fl_X12_102 dX12_note_41 (fun v41 => ?_)
          refine hf_ald_n (pc := 44) 0 rfl rfl dX12_note_44 ?_
          refine hf_getf (pc := 45) fl_X12_137 dX12_note_45 (fun v45 => ?_)
          refine hf_ild_n (pc := 48) 1 rfl rfl dX12_note_48 ?_
          refine hf_iast (pc := 49) dX12_note_49 ?_
          refine hf_ald_n (pc := 50) 0 rfl rfl dX12_note_50 ?_
          refine hf_getf (pc := 51) fl_X12_105 dX12_note_51 (fun v51 => ?_)
          refine hf_ald_n (pc := 54) 0 rfl rfl dX12_note_54 ?_
          refine hf_getf (pc := 55) fl_X12_137 dX12_note_55 (fun v55 => ?_)
          refine hf_ild_n (pc := 58) 2 rfl rfl dX12_note_58 ?_
          refine hf_iast (pc := 59) dX12_note_59 ?_
          refine hf_ald_n (pc := 60) 0 rfl rfl dX12_note_60 ?_
          refine hf_getf (pc := 61) fl_X12_108 dX12_note_61 (fun v61 => ?_)
          refine hf_ald_n (pc := 64) 0 rfl rfl dX12_note_64 ?_
          refine hf_getf (pc := 65) fl_X12_137 dX12_note_65 (fun v65 => ?_)
          refine hf_ild_n (pc := 68) 3 rfl rfl dX12_note_68 ?_
          refine hf_iast (pc := 69) dX12_note_69 ?_
          refine hf_ald_n (pc := 70) 0 rfl rfl dX12_note_70 ?_
          refine hf_getf (pc := 71) fl_X12_111 dX12_note_71 (fun v71 => ?_)
          refine hf_ald_n (pc := 74) 0 rfl rfl dX12_note_74 ?_
          refine hf_getf (pc := 75) fl_X12_137 dX12_note_75 (fun v75 => ?_)
          refine hf_ild (pc := 78) 4 rfl dX12_note_78 ?_
          refine hf_Jck (fun hz => ?_)
          refine hf_zast (pc := 80) hz dX12_note_80 ?_
          refine hf_ald_n (pc := 81) 0 rfl rfl dX12_note_81 ?_
          refine hf_dup (pc := 82) (by decide) dX12_note_82 ?_
          refine hf_getf (pc := 83) fl_X12_137 dX12_note_83 (fun v83 => ?_)
          refine hf_iconst (pc := 86) dX12_note_86 ?_
          refine hf_iadd (pc := 87) dX12_note_87 ?_
          refine hf_putf (pc := 88) fl_X12_137 trivial dX12_note_88 ?_
          refine hf_ald_n (pc := 91) 0 rfl rfl dX12_note_91 ?_
          refine hf_getf (pc := 92) fl_X12_137 dX12_note_92 (fun v92 => ?_)
          refine hf_iconst (pc := 95) dX12_note_95 ?_
          refine hf_isub (pc := 96) dX12_note_96 ?_
          exact hf_Jret (pc := 97) dX12_note_97 (fun _ => rfl)
        · refine hf_iconst (pc := 38) dX12_note_38 ?_
          exact hf_Jret (pc := 39) dX12_note_39 (fun _ => rfl)
/-! HighFallModel.strike(I)I -/
def M_X12_strike : hf_D := (yX12_strike, cX12_strike, 2, some .int, 0, 0)
def f_X12_strike (x0 x1 : Int) : hf_M Int :=
  hf_bd (hf_pf 12 2 x0 0) (fun _ => hf_bd (hf_gf 12 57 x0) (fun v6 => hf_cb v6 40 (v6 = 40) (hf_ret (-1)) (hf_cz x1 (x1 < 0) (hf_ret (-1)) (hf_bd (hf_gf 12 57 x0) (fun v20 => hf_cb x1 v20 (x1 < v20) (hf_bd (hf_gf 12 58 x0) (fun v29 => hf_bd (hf_gf 12 57 x0) (fun v33 => hf_bd (hf_as 20 v29 v33 (-1)) (fun _ => hf_bd (hf_gf 12 60 x0) (fun v39 => hf_bd (hf_gf 12 57 x0) (fun v43 => hf_bd (hf_as 20 v39 v43 x1) (fun _ => hf_bd (hf_gf 12 57 x0) (fun v50 => hf_bd (hf_pf 12 57 x0 (v50 + 1)) (fun _ => hf_bd (hf_gf 12 57 x0) (fun v59 => hf_ret (v59 - 1))))))))))) (hf_ret (-1)))))))
theorem cal_X12_strike : hf_cv M_X12_strike 12 1 := ⟨⟨ii_X12, kc_X12_strike, by decide, by decide, by decide +kernel⟩, ki_X12_strike, kv_X12_strike, _, rfl, rfl⟩
set_option maxRecDepth 20000 in
theorem c_X12_strike (x0 x1 : Int) : hf_Met M_X12_strike [2, 0] [x0, x1] (f_X12_strike x0 x1) := by
  refine hf_met rfl (by decide) (by decide) (by decide) ?_
  show hf_J M_X12_strike 0 [(0, 2, x0), (1, 0, x1)] [] _
  refine hf_ald_n (pc := 0) 0 rfl rfl dX12_strike_0 ?_
  refine hf_iconst (pc := 1) dX12_strike_1 ?_
  refine hf_putf (pc := 2) fl_X12_127 trivial dX12_strike_2 ?_
  refine hf_ald_n (pc := 5) 0 rfl rfl dX12_strike_5 ?_
  refine hf_getf (pc := 6) fl_X12_137 dX12_strike_6 (fun v6 => ?_)
  refine hf_bipush (pc := 9) dX12_strike_9 (by decide) ?_
  refine hf_icmp_eq (pc := 11) 26 dX12_strike_11 rfl ?_ ?_
  · refine hf_iconst (pc := 26) dX12_strike_26 ?_
    exact hf_Jret (pc := 27) dX12_strike_27 (fun _ => rfl)
  · refine hf_ild_n (pc := 14) 1 rfl rfl dX12_strike_14 ?_
    refine hf_if_lt (pc := 15) 26 dX12_strike_15 rfl ?_ ?_
    · refine hf_iconst (pc := 26) dX12_strike_26 ?_
      exact hf_Jret (pc := 27) dX12_strike_27 (fun _ => rfl)
    · refine hf_ild_n (pc := 18) 1 rfl rfl dX12_strike_18 ?_
      refine hf_ald_n (pc := 19) 0 rfl rfl dX12_strike_19 ?_
      refine hf_getf (pc := 20) fl_X12_137 dX12_strike_20 (fun v20 => ?_)
      refine hf_icmp_lt (pc := 23) 28 dX12_strike_23 rfl ?_ ?_
      · refine hf_ald_n (pc := 28) 0 rfl rfl dX12_strike_28 ?_
        refine hf_getf (pc := 29) fl_X12_102 dX12_strike_29 (fun v29 => ?_)
        refine hf_ald_n (pc := 32) 0 rfl rfl dX12_strike_32 ?_
        refine hf_getf (pc := 33) fl_X12_137 dX12_strike_33 (fun v33 => ?_)
        refine hf_iconst (pc := 36) dX12_strike_36 ?_
        refine hf_iast (pc := 37) dX12_strike_37 ?_
        refine hf_ald_n (pc := 38) 0 rfl rfl dX12_strike_38 ?_
        refine hf_getf (pc := 39) fl_X12_108 dX12_strike_39 (fun v39 => ?_)
        refine hf_ald_n (pc := 42) 0 rfl rfl dX12_strike_42 ?_
        refine hf_getf (pc := 43) fl_X12_137 dX12_strike_43 (fun v43 => ?_)
        refine hf_ild_n (pc := 46) 1 rfl rfl dX12_strike_46 ?_
        refine hf_iast (pc := 47) dX12_strike_47 ?_
        refine hf_ald_n (pc := 48) 0 rfl rfl dX12_strike_48 ?_
        refine hf_dup (pc := 49) (by decide) dX12_strike_49 ?_
        refine hf_getf (pc := 50) fl_X12_137 dX12_strike_50 (fun v50 => ?_)
        refine hf_iconst (pc := 53) dX12_strike_53 ?_
        refine hf_iadd (pc := 54) dX12_strike_54 ?_
        refine hf_putf (pc := 55) fl_X12_137 trivial dX12_strike_55 ?_
        refine hf_ald_n (pc := 58) 0 rfl rfl dX12_strike_58 ?_
        refine hf_getf (pc := 59) fl_X12_137 dX12_strike_59 (fun v59 => ?_)
        refine hf_iconst (pc := 62) dX12_strike_62 ?_
        refine hf_isub (pc := 63) dX12_strike_63 ?_
        exact hf_Jret (pc := 64) dX12_strike_64 (fun _ => rfl)
      · refine hf_iconst (pc := 26) dX12_strike_26 ?_
        exact hf_Jret (pc := 27) dX12_strike_27 (fun _ => rfl)
/-! HighFallModel.layCounts()V -/
def M_X12_layCounts : hf_D := (yX12_layCounts, cX12_layCounts, 2, none, 0, 0)
def f_X12_layCounts_64 (rec_30 : Int → hf_M Int) (x0 x1 : Int) : hf_M Int :=
  hf_bd (hf_ret (x1 + (-1))) (fun x1_64 => rec_30 x1_64)
def B_X12_layCounts_30 (x0 : Int) (rec_30 : Int → hf_M Int) (x1 : Int) : hf_M Int :=
  hf_cz x1 (x1 < 0) (hf_ret 0) (hf_bd (hf_gf 12 58 x0) (fun v35 => hf_bd (hf_al 20 v35 x1) (fun v39 => hf_cz v39 (0 ≤ v39) (f_X12_layCounts_64 rec_30 x0 x1) (hf_bd (hf_gf 12 62 x0) (fun v44 => hf_bd (hf_al 23 v44 x1) (fun v48 => hf_cz v48 (v48 = 0) (f_X12_layCounts_64 rec_30 x0 x1) (hf_bd (hf_gf 12 62 x0) (fun v53 => hf_bd (hf_gf 12 60 x0) (fun v57 => hf_bd (hf_al 20 v57 x1) (fun v61 => hf_bd (hf_as 23 v53 v61 0) (fun _ => f_X12_layCounts_64 rec_30 x0 x1)))))))))))
def f_X12_layCounts_30 (x0 x1 : Int) : hf_M Int := hf_fx (fun rec s => B_X12_layCounts_30 x0 rec s) hf_N x1
def B_X12_layCounts_2 (x0 : Int) (rec_2 : Int → hf_M Int) (x1 : Int) : hf_M Int :=
  hf_bd (hf_gf 12 57 x0) (fun v4 => hf_cb x1 v4 (v4 ≤ x1) (hf_bd (hf_gf 12 57 x0) (fun v24 => hf_bd (hf_ret (v24 - 1)) (fun x1_29 => f_X12_layCounts_30 x0 x1_29))) (hf_bd (hf_gf 12 62 x0) (fun v11 => hf_bd (hf_as 23 v11 x1 1) (fun _ => hf_bd (hf_ret (x1 + 1)) (fun x1_17 => rec_2 x1_17)))))
def f_X12_layCounts_2 (x0 x1 : Int) : hf_M Int := hf_fx (fun rec s => B_X12_layCounts_2 x0 rec s) hf_N x1
def f_X12_layCounts (x0 : Int) : hf_M Int :=
  f_X12_layCounts_2 x0 0
theorem cal_X12_layCounts : hf_cv M_X12_layCounts 12 0 := ⟨⟨ii_X12, kc_X12_layCounts, by decide, by decide, by decide +kernel⟩, ki_X12_layCounts, kv_X12_layCounts, _, rfl, rfl⟩
set_option maxRecDepth 20000 in
theorem j_X12_layCounts_64 (x0 x1 : Int) (rec_30 : Int → hf_M Int) (hrec_30 : ∀ s : Int, hf_J M_X12_layCounts 30 [(0, 2, x0), (1, 0, s)] [] (rec_30 s)) : hf_J M_X12_layCounts 64 [(0, 2, x0), (1, 0, x1)] [] (f_X12_layCounts_64 rec_30 x0 x1) := by
  refine hf_iincB (pc := 64) (fun y => [(1, 0, y), (0, 2, x0)]) (q := 1) rfl (by decide) (fun _ => rfl) dX12_layCounts_64 (fun x1_64 => ?_)
  refine hf_goto (pc := 67) 30 dX12_layCounts_67 rfl ?_
  exact hf_sub [1, 0] rfl (hrec_30 x1_64)
set_option maxRecDepth 20000 in
theorem jb_X12_layCounts_30 (x0 : Int) (rec_30 : Int → hf_M Int) (hrec_30 : ∀ s : Int, hf_J M_X12_layCounts 30 [(0, 2, x0), (1, 0, s)] [] (rec_30 s)) (x1 : Int) : hf_J M_X12_layCounts 30 [(0, 2, x0), (1, 0, x1)] [] (B_X12_layCounts_30 x0 rec_30 x1) := by
  refine hf_ild_n (pc := 30) 1 rfl rfl dX12_layCounts_30 ?_
  refine hf_if_lt (pc := 31) 70 dX12_layCounts_31 rfl ?_ ?_
  · exact hf_Jret (pc := 70) dX12_layCounts_70 (fun _ => rfl)
  · refine hf_ald_n (pc := 34) 0 rfl rfl dX12_layCounts_34 ?_
    refine hf_getf (pc := 35) fl_X12_102 dX12_layCounts_35 (fun v35 => ?_)
    refine hf_ild_n (pc := 38) 1 rfl rfl dX12_layCounts_38 ?_
    refine hf_iald (pc := 39) dX12_layCounts_39 (fun v39 => ?_)
    refine hf_if_ge (pc := 40) 64 dX12_layCounts_40 rfl ?_ ?_
    · exact hf_sub [0, 1] rfl (j_X12_layCounts_64 x0 x1 rec_30 hrec_30)
    · refine hf_ald_n (pc := 43) 0 rfl rfl dX12_layCounts_43 ?_
      refine hf_getf (pc := 44) fl_X12_115 dX12_layCounts_44 (fun v44 => ?_)
      refine hf_ild_n (pc := 47) 1 rfl rfl dX12_layCounts_47 ?_
      refine hf_zald (pc := 48) dX12_layCounts_48 (fun v48 => ?_)
      refine hf_if_eq (pc := 49) 64 dX12_layCounts_49 rfl ?_ ?_
      · exact hf_sub [0, 1] rfl (j_X12_layCounts_64 x0 x1 rec_30 hrec_30)
      · refine hf_ald_n (pc := 52) 0 rfl rfl dX12_layCounts_52 ?_
        refine hf_getf (pc := 53) fl_X12_115 dX12_layCounts_53 (fun v53 => ?_)
        refine hf_ald_n (pc := 56) 0 rfl rfl dX12_layCounts_56 ?_
        refine hf_getf (pc := 57) fl_X12_108 dX12_layCounts_57 (fun v57 => ?_)
        refine hf_ild_n (pc := 60) 1 rfl rfl dX12_layCounts_60 ?_
        refine hf_iald (pc := 61) dX12_layCounts_61 (fun v61 => ?_)
        refine hf_iconst (pc := 62) dX12_layCounts_62 ?_
        refine hf_zast (pc := 63) (Or.inl rfl) dX12_layCounts_63 ?_
        exact hf_sub [0, 1] rfl (j_X12_layCounts_64 x0 x1 rec_30 hrec_30)
set_option maxRecDepth 20000 in
theorem j_X12_layCounts_30 (x0 x1 : Int) : hf_J M_X12_layCounts 30 [(0, 2, x0), (1, 0, x1)] [] (f_X12_layCounts_30 x0 x1) :=
  hf_Jfx (L := fun s => [(0, 2, x0), (1, 0, s)]) (fun rec hrec s => jb_X12_layCounts_30 x0 rec hrec s) hf_N x1
set_option maxRecDepth 20000 in
theorem jb_X12_layCounts_2 (x0 : Int) (rec_2 : Int → hf_M Int) (hrec_2 : ∀ s : Int, hf_J M_X12_layCounts 2 [(0, 2, x0), (1, 0, s)] [] (rec_2 s)) (x1 : Int) : hf_J M_X12_layCounts 2 [(0, 2, x0), (1, 0, x1)] [] (B_X12_layCounts_2 x0 rec_2 x1) := by
  refine hf_ild_n (pc := 2) 1 rfl rfl dX12_layCounts_2 ?_
  refine hf_ald_n (pc := 3) 0 rfl rfl dX12_layCounts_3 ?_
  refine hf_getf (pc := 4) fl_X12_137 dX12_layCounts_4 (fun v4 => ?_)
  refine hf_icmp_ge (pc := 7) 23 dX12_layCounts_7 rfl ?_ ?_
  · refine hf_ald_n (pc := 23) 0 rfl rfl dX12_layCounts_23 ?_
    refine hf_getf (pc := 24) fl_X12_137 dX12_layCounts_24 (fun v24 => ?_)
    refine hf_iconst (pc := 27) dX12_layCounts_27 ?_
    refine hf_isub (pc := 28) dX12_layCounts_28 ?_
    refine hf_ist_nB (pc := 29) (fun y => [(1, 0, y), (0, 2, x0)]) rfl (by decide) (fun _ => rfl) dX12_layCounts_29 (fun x1_29 => ?_)
    exact hf_sub [1, 0] rfl (j_X12_layCounts_30 x0 x1_29)
  · refine hf_ald_n (pc := 10) 0 rfl rfl dX12_layCounts_10 ?_
    refine hf_getf (pc := 11) fl_X12_115 dX12_layCounts_11 (fun v11 => ?_)
    refine hf_ild_n (pc := 14) 1 rfl rfl dX12_layCounts_14 ?_
    refine hf_iconst (pc := 15) dX12_layCounts_15 ?_
    refine hf_zast (pc := 16) (Or.inr rfl) dX12_layCounts_16 ?_
    refine hf_iincB (pc := 17) (fun y => [(1, 0, y), (0, 2, x0)]) (q := 1) rfl (by decide) (fun _ => rfl) dX12_layCounts_17 (fun x1_17 => ?_)
    refine hf_goto (pc := 20) 2 dX12_layCounts_20 rfl ?_
    exact hf_sub [1, 0] rfl (hrec_2 x1_17)
set_option maxRecDepth 20000 in
theorem j_X12_layCounts_2 (x0 x1 : Int) : hf_J M_X12_layCounts 2 [(0, 2, x0), (1, 0, x1)] [] (f_X12_layCounts_2 x0 x1) :=
  hf_Jfx (L := fun s => [(0, 2, x0), (1, 0, s)]) (fun rec hrec s => jb_X12_layCounts_2 x0 rec hrec s) hf_N x1
set_option maxRecDepth 20000 in
theorem c_X12_layCounts (x0 : Int) : hf_Met M_X12_layCounts [2] [x0] (f_X12_layCounts x0) := by
  refine hf_met rfl (by decide) (by decide) (by decide) ?_
  show hf_J M_X12_layCounts 0 [(0, 2, x0)] [] _
  refine hf_iconst (pc := 0) dX12_layCounts_0 ?_
  refine hf_ist_n (pc := 1) (lv' := [(1, 0, 0), (0, 2, x0)]) rfl (by decide) rfl dX12_layCounts_1 ?_
  exact hf_sub [1, 0] rfl (j_X12_layCounts_2 x0 0)
/-! HighFallModel.isAgainst(II)Z -/
def M_X12_isAgainst : hf_D := (yX12_isAgainst, cX12_isAgainst, 3, some .boolean, 1, 24)
def f_X12_isAgainst (x0 x1 x2 : Int) : hf_M Int :=
  hf_bd (hf_gf 12 62 x0) (fun v1 => hf_bd (hf_al 23 v1 x1) (fun v5 => hf_cz v5 (v5 = 0) (hf_ret 0) (hf_bd (hf_gf 12 58 x0) (fun v10 => hf_bd (hf_al 20 v10 x1) (fun v14 => hf_cz v14 (v14 < 0) (hf_ret 0) (hf_bd (hf_gf 12 59 x0) (fun v21 => hf_bd (hf_al 20 v21 x1) (fun v25 => hf_bd (hf_gf 12 60 x0) (fun v27 => hf_bd (hf_al 20 v27 x1) (fun v31 => hf_ck (hf_inI v31) (hf_bd (hf_ob 12 x0 (f_X12_breaks x0 x2 v25 v31)) (fun v33 => hf_bd (hf_gf 12 61 x0) (fun v37 => hf_bd (hf_al 23 v37 x1) (fun v41 => hf_cb v33 v41 (v33 = v41) (hf_ret 0) (hf_ret 1)))))))))))))))
theorem cal_X12_isAgainst : hf_cv M_X12_isAgainst 12 2 := ⟨⟨ii_X12, kc_X12_isAgainst, by decide, by decide, by decide +kernel⟩, ki_X12_isAgainst, kv_X12_isAgainst, _, rfl, rfl⟩
set_option maxRecDepth 20000 in
theorem c_X12_isAgainst (x0 x1 x2 : Int) : hf_Met M_X12_isAgainst [2, 0, 0] [x0, x1, x2] (f_X12_isAgainst x0 x1 x2) := by
  refine hf_met rfl (by decide) (by decide) (by decide) ?_
  show hf_J M_X12_isAgainst 0 [(0, 2, x0), (1, 0, x1), (2, 0, x2)] [] _
  refine hf_ald_n (pc := 0) 0 rfl rfl dX12_isAgainst_0 ?_
  refine hf_getf (pc := 1) fl_X12_115 dX12_isAgainst_1 (fun v1 => ?_)
  refine hf_ild_n (pc := 4) 1 rfl rfl dX12_isAgainst_4 ?_
  refine hf_zald (pc := 5) dX12_isAgainst_5 (fun v5 => ?_)
  refine hf_if_eq (pc := 6) 49 dX12_isAgainst_6 rfl ?_ ?_
  · refine hf_iconst (pc := 49) dX12_isAgainst_49 ?_
    exact hf_Jret (pc := 50) (r := 0) ⟨dX12_isAgainst_50, Or.inl rfl⟩ (fun _ => rfl)
  · refine hf_ald_n (pc := 9) 0 rfl rfl dX12_isAgainst_9 ?_
    refine hf_getf (pc := 10) fl_X12_102 dX12_isAgainst_10 (fun v10 => ?_)
    refine hf_ild_n (pc := 13) 1 rfl rfl dX12_isAgainst_13 ?_
    refine hf_iald (pc := 14) dX12_isAgainst_14 (fun v14 => ?_)
    refine hf_if_lt (pc := 15) 49 dX12_isAgainst_15 rfl ?_ ?_
    · refine hf_iconst (pc := 49) dX12_isAgainst_49 ?_
      exact hf_Jret (pc := 50) (r := 0) ⟨dX12_isAgainst_50, Or.inl rfl⟩ (fun _ => rfl)
    · refine hf_ald_n (pc := 18) 0 rfl rfl dX12_isAgainst_18 ?_
      refine hf_ild_n (pc := 19) 2 rfl rfl dX12_isAgainst_19 ?_
      refine hf_ald_n (pc := 20) 0 rfl rfl dX12_isAgainst_20 ?_
      refine hf_getf (pc := 21) fl_X12_105 dX12_isAgainst_21 (fun v21 => ?_)
      refine hf_ild_n (pc := 24) 1 rfl rfl dX12_isAgainst_24 ?_
      refine hf_iald (pc := 25) dX12_isAgainst_25 (fun v25 => ?_)
      refine hf_ald_n (pc := 26) 0 rfl rfl dX12_isAgainst_26 ?_
      refine hf_getf (pc := 27) fl_X12_108 dX12_isAgainst_27 (fun v27 => ?_)
      refine hf_ild_n (pc := 30) 1 rfl rfl dX12_isAgainst_30 ?_
      refine hf_iald (pc := 31) dX12_isAgainst_31 (fun v31 => ?_)
      refine hf_i2l (pc := 32) dX12_isAgainst_32 ?_
      refine hf_cV (pc := 33) (N := M_X12_breaks) (ts := [0, 0, 1]) (vs := [x2, v25, v31]) (st := []) (fun r => [(0, r)]) (c_X12_breaks x0 x2 v25 v31) cal_X12_breaks ml_X12_326 ⟨hf_le rfl, hf_le rfl⟩ (hf_le rfl) ⟨rfl, rfl⟩ rfl dX12_isAgainst_33 (fun _ => rfl) (fun v33 => ?_)
      refine hf_ald_n (pc := 36) 0 rfl rfl dX12_isAgainst_36 ?_
      refine hf_getf (pc := 37) fl_X12_111 dX12_isAgainst_37 (fun v37 => ?_)
      refine hf_ild_n (pc := 40) 1 rfl rfl dX12_isAgainst_40 ?_
      refine hf_zald (pc := 41) dX12_isAgainst_41 (fun v41 => ?_)
      refine hf_icmp_eq (pc := 42) 49 dX12_isAgainst_42 rfl ?_ ?_
      · refine hf_iconst (pc := 49) dX12_isAgainst_49 ?_
        exact hf_Jret (pc := 50) (r := 0) ⟨dX12_isAgainst_50, Or.inl rfl⟩ (fun _ => rfl)
      · refine hf_iconst (pc := 45) dX12_isAgainst_45 ?_
        refine hf_goto (pc := 46) 50 dX12_isAgainst_46 rfl ?_
        exact hf_Jret (pc := 50) (r := 1) ⟨dX12_isAgainst_50, Or.inr rfl⟩ (fun _ => rfl)
/-! HighFallModel.doubtOf(I)I -/
def M_X12_doubtOf : hf_D := (yX12_doubtOf, cX12_doubtOf, 4, some .int, 2, 46)
def B_X12_doubtOf_4 (x0 x1 : Int) (rec_4 : Int × Int → hf_M Int) (x2 x3 : Int) : hf_M Int :=
  hf_bd (hf_gf 12 57 x0) (fun v6 => hf_cb x3 v6 (v6 ≤ x3) (hf_ret x2) (hf_bd (hf_ob 12 x0 (f_X12_isAgainst x0 x3 x1)) (fun v16 => hf_ck (hf_inI v16) (hf_bd (hf_ret (if v16 = 0 then 0 else 1)) (fun w27 => hf_bd (hf_ret (x2 + w27)) (fun x2_28 => hf_bd (hf_ret (x3 + 1)) (fun x3_29 => rec_4 (x2_28, x3_29))))))))
def f_X12_doubtOf_4 (x0 x1 x2 x3 : Int) : hf_M Int := hf_fx (fun rec s => B_X12_doubtOf_4 x0 x1 rec s.1 s.2) hf_N (x2, x3)
def f_X12_doubtOf (x0 x1 : Int) : hf_M Int :=
  f_X12_doubtOf_4 x0 x1 0 0
theorem cal_X12_doubtOf : hf_cv M_X12_doubtOf 12 1 := ⟨⟨ii_X12, kc_X12_doubtOf, by decide, by decide, by decide +kernel⟩, ki_X12_doubtOf, kv_X12_doubtOf, _, rfl, rfl⟩
set_option maxRecDepth 20000 in
theorem jb_X12_doubtOf_4 (x0 x1 : Int) (rec_4 : Int × Int → hf_M Int) (hrec_4 : ∀ s : Int × Int, hf_J M_X12_doubtOf 4 [(0, 2, x0), (1, 0, x1), (2, 0, s.1), (3, 0, s.2)] [] (rec_4 s)) (x2 x3 : Int) : hf_J M_X12_doubtOf 4 [(0, 2, x0), (1, 0, x1), (2, 0, x2), (3, 0, x3)] [] (B_X12_doubtOf_4 x0 x1 rec_4 x2 x3) := by
  refine hf_ild_n (pc := 4) 3 rfl rfl dX12_doubtOf_4 ?_
  refine hf_ald_n (pc := 5) 0 rfl rfl dX12_doubtOf_5 ?_
  refine hf_getf (pc := 6) fl_X12_137 dX12_doubtOf_6 (fun v6 => ?_)
  refine hf_icmp_ge (pc := 9) 35 dX12_doubtOf_9 rfl ?_ ?_
  · refine hf_ild_n (pc := 35) 2 rfl rfl dX12_doubtOf_35 ?_
    exact hf_Jret (pc := 36) dX12_doubtOf_36 (fun _ => rfl)
  · refine hf_ild_n (pc := 12) 2 rfl rfl dX12_doubtOf_12 ?_
    refine hf_ald_n (pc := 13) 0 rfl rfl dX12_doubtOf_13 ?_
    refine hf_ild_n (pc := 14) 3 rfl rfl dX12_doubtOf_14 ?_
    refine hf_ild_n (pc := 15) 1 rfl rfl dX12_doubtOf_15 ?_
    refine hf_cV (pc := 16) (N := M_X12_isAgainst) (ts := [0, 0]) (vs := [x3, x1]) (st := [(0, x2)]) (fun r => [(0, r), (0, x2)]) (c_X12_isAgainst x0 x3 x1) cal_X12_isAgainst ml_X12_396 ⟨hf_le rfl, hf_le rfl⟩ (hf_le rfl) ⟨rfl, rfl⟩ rfl dX12_doubtOf_16 (fun _ => rfl) (fun v16 => ?_)
    refine hf_Jdiz (pc := 19) (pcM := 27) (t := 0) (stM := [(0, x2)]) (fun w27 => ?_) (fun a1 a2 => ?_)
    · refine hf_iadd (pc := 27) dX12_doubtOf_27 ?_
      refine hf_ist_nB (pc := 28) (fun y => [(2, 0, y), (0, 2, x0), (1, 0, x1), (3, 0, x3)]) rfl (by decide) (fun _ => rfl) dX12_doubtOf_28 (fun x2_28 => ?_)
      refine hf_iincB (pc := 29) (fun y => [(3, 0, y), (2, 0, x2_28), (0, 2, x0), (1, 0, x1)]) (q := 3) rfl (by decide) (fun _ => rfl) dX12_doubtOf_29 (fun x3_29 => ?_)
      refine hf_goto (pc := 32) 4 dX12_doubtOf_32 rfl ?_
      exact hf_sub [2, 3, 1, 0] rfl (hrec_4 (x2_28, x3_29))
    · refine hf_if_eq (pc := 19) 26 dX12_doubtOf_19 rfl ?_ ?_
      · refine hf_iconst (pc := 26) dX12_doubtOf_26 ?_
        exact a1
      · refine hf_iconst (pc := 22) dX12_doubtOf_22 ?_
        refine hf_goto (pc := 23) 27 dX12_doubtOf_23 rfl ?_
        exact a2
set_option maxRecDepth 20000 in
theorem j_X12_doubtOf_4 (x0 x1 x2 x3 : Int) : hf_J M_X12_doubtOf 4 [(0, 2, x0), (1, 0, x1), (2, 0, x2), (3, 0, x3)] [] (f_X12_doubtOf_4 x0 x1 x2 x3) :=
  hf_Jfx (L := fun s => [(0, 2, x0), (1, 0, x1), (2, 0, s.1), (3, 0, s.2)]) (fun rec hrec s => jb_X12_doubtOf_4 x0 x1 rec hrec s.1 s.2) hf_N (x2, x3)
set_option maxRecDepth 20000 in
theorem c_X12_doubtOf (x0 x1 : Int) : hf_Met M_X12_doubtOf [2, 0] [x0, x1] (f_X12_doubtOf x0 x1) := by
  refine hf_met rfl (by decide) (by decide) (by decide) ?_
  show hf_J M_X12_doubtOf 0 [(0, 2, x0), (1, 0, x1)] [] _
  refine hf_iconst (pc := 0) dX12_doubtOf_0 ?_
  refine hf_ist_n (pc := 1) (lv' := [(2, 0, 0), (0, 2, x0), (1, 0, x1)]) rfl (by decide) rfl dX12_doubtOf_1 ?_
  refine hf_iconst (pc := 2) dX12_doubtOf_2 ?_
  refine hf_ist_n (pc := 3) (lv' := [(3, 0, 0), (2, 0, 0), (0, 2, x0), (1, 0, x1)]) rfl (by decide) rfl dX12_doubtOf_3 ?_
  exact hf_sub [2, 3, 1, 0] rfl (j_X12_doubtOf_4 x0 x1 0 0)
/-! HighFallModel.fitting(I)I -/
def M_X12_fitting : hf_D := (yX12_fitting, cX12_fitting, 4, some .int, 3, 69)
def f_X12_fitting_42 (rec_13 : Int × Int → hf_M Int) (x0 x1 x2 x3 : Int) : hf_M Int :=
  hf_bd (hf_ret (x3 + 1)) (fun x3_42 => rec_13 (x2, x3_42))
def B_X12_fitting_13 (x0 x1 : Int) (rec_13 : Int × Int → hf_M Int) (x2 x3 : Int) : hf_M Int :=
  hf_bd (hf_gf 12 3 x0) (fun v15 => hf_cb x3 v15 (v15 < x3) (hf_ck (hf_inI x1 ∧ hf_inI (-1)) (hf_bd (hf_ret (if ¬ x1 = (-1) then (-1) else x2)) (fun w58 => hf_ret w58))) (hf_bd (hf_ob 12 x0 (f_X12_doubtOf x0 x3)) (fun v23 => hf_cz v23 (v23 ≤ 0) (hf_cb x2 x1 (¬ x2 = x1) (hf_bd (hf_ret (x2 + 1)) (fun x2_39 => f_X12_fitting_42 rec_13 x0 x1 x2_39 x3)) (hf_ret x3)) (f_X12_fitting_42 rec_13 x0 x1 x2 x3))))
def f_X12_fitting_13 (x0 x1 x2 x3 : Int) : hf_M Int := hf_fx (fun rec s => B_X12_fitting_13 x0 x1 rec s.1 s.2) hf_N (x2, x3)
def f_X12_fitting (x0 x1 : Int) : hf_M Int :=
  hf_bd (hf_pf 12 2 x0 0) (fun _ => hf_bd (hf_ob 12 x0 (f_X12_layCounts x0)) (fun _ => f_X12_fitting_13 x0 x1 0 0))
theorem cal_X12_fitting : hf_cv M_X12_fitting 12 1 := ⟨⟨ii_X12, kc_X12_fitting, by decide, by decide, by decide +kernel⟩, ki_X12_fitting, kv_X12_fitting, _, rfl, rfl⟩
set_option maxRecDepth 20000 in
theorem j_X12_fitting_42 (x0 x1 x2 x3 : Int) (rec_13 : Int × Int → hf_M Int) (hrec_13 : ∀ s : Int × Int, hf_J M_X12_fitting 13 [(0, 2, x0), (1, 0, x1), (2, 0, s.1), (3, 0, s.2)] [] (rec_13 s)) : hf_J M_X12_fitting 42 [(0, 2, x0), (1, 0, x1), (2, 0, x2), (3, 0, x3)] [] (f_X12_fitting_42 rec_13 x0 x1 x2 x3) := by
  refine hf_iincB (pc := 42) (fun y => [(3, 0, y), (0, 2, x0), (1, 0, x1), (2, 0, x2)]) (q := 3) rfl (by decide) (fun _ => rfl) dX12_fitting_42 (fun x3_42 => ?_)
  refine hf_goto (pc := 45) 13 dX12_fitting_45 rfl ?_
  exact hf_sub [1, 2, 3, 0] rfl (hrec_13 (x2, x3_42))
set_option maxRecDepth 20000 in
theorem jb_X12_fitting_13 (x0 x1 : Int) (rec_13 : Int × Int → hf_M Int) (hrec_13 : ∀ s : Int × Int, hf_J M_X12_fitting 13 [(0, 2, x0), (1, 0, x1), (2, 0, s.1), (3, 0, s.2)] [] (rec_13 s)) (x2 x3 : Int) : hf_J M_X12_fitting 13 [(0, 2, x0), (1, 0, x1), (2, 0, x2), (3, 0, x3)] [] (B_X12_fitting_13 x0 x1 rec_13 x2 x3) := by
  refine hf_ild_n (pc := 13) 3 rfl rfl dX12_fitting_13 ?_
  refine hf_ald_n (pc := 14) 0 rfl rfl dX12_fitting_14 ?_
  refine hf_getf (pc := 15) fl_X12_13 dX12_fitting_15 (fun v15 => ?_)
  refine hf_icmp_gt (pc := 18) 48 dX12_fitting_18 rfl ?_ ?_
  · refine hf_ild_n (pc := 48) 1 rfl rfl dX12_fitting_48 ?_
    refine hf_iconst (pc := 49) dX12_fitting_49 ?_
    refine hf_Jdib (pc := 50) (pcM := 58) (t := 0) (stM := []) (fun w58 => ?_) (fun a1 a2 => ?_)
    · exact hf_Jret (pc := 58) dX12_fitting_58 (fun _ => rfl)
    · refine hf_icmp_ne (pc := 50) 57 dX12_fitting_50 rfl ?_ ?_
      · refine hf_iconst (pc := 57) dX12_fitting_57 ?_
        exact a1
      · refine hf_ild_n (pc := 53) 2 rfl rfl dX12_fitting_53 ?_
        refine hf_goto (pc := 54) 58 dX12_fitting_54 rfl ?_
        exact a2
  · refine hf_ald_n (pc := 21) 0 rfl rfl dX12_fitting_21 ?_
    refine hf_ild_n (pc := 22) 3 rfl rfl dX12_fitting_22 ?_
    refine hf_cV (pc := 23) (N := M_X12_doubtOf) (ts := [0]) (vs := [x3]) (st := []) (fun r => [(0, r)]) (c_X12_doubtOf x0 x3) cal_X12_doubtOf ml_X12_402 ⟨hf_le rfl, hf_le rfl⟩ (hf_le rfl) ⟨rfl, rfl⟩ rfl dX12_fitting_23 (fun _ => rfl) (fun v23 => ?_)
    refine hf_if_le (pc := 26) 32 dX12_fitting_26 rfl ?_ ?_
    · refine hf_ild_n (pc := 32) 2 rfl rfl dX12_fitting_32 ?_
      refine hf_ild_n (pc := 33) 1 rfl rfl dX12_fitting_33 ?_
      refine hf_icmp_ne (pc := 34) 39 dX12_fitting_34 rfl ?_ ?_
      · refine hf_iincB (pc := 39) (fun y => [(2, 0, y), (0, 2, x0), (1, 0, x1), (3, 0, x3)]) (q := 2) rfl (by decide) (fun _ => rfl) dX12_fitting_39 (fun x2_39 => ?_)
        exact hf_sub [1, 2, 0, 3] rfl (j_X12_fitting_42 x0 x1 x2_39 x3 rec_13 hrec_13)
      · refine hf_ild_n (pc := 37) 3 rfl rfl dX12_fitting_37 ?_
        exact hf_Jret (pc := 38) dX12_fitting_38 (fun _ => rfl)
    · refine hf_goto (pc := 29) 42 dX12_fitting_29 rfl ?_
      exact hf_sub [0, 1, 2, 3] rfl (j_X12_fitting_42 x0 x1 x2 x3 rec_13 hrec_13)
set_option maxRecDepth 20000 in
theorem j_X12_fitting_13 (x0 x1 x2 x3 : Int) : hf_J M_X12_fitting 13 [(0, 2, x0), (1, 0, x1), (2, 0, x2), (3, 0, x3)] [] (f_X12_fitting_13 x0 x1 x2 x3) :=
  hf_Jfx (L := fun s => [(0, 2, x0), (1, 0, x1), (2, 0, s.1), (3, 0, s.2)]) (fun rec hrec s => jb_X12_fitting_13 x0 x1 rec hrec s.1 s.2) hf_N (x2, x3)
set_option maxRecDepth 20000 in
theorem c_X12_fitting (x0 x1 : Int) : hf_Met M_X12_fitting [2, 0] [x0, x1] (f_X12_fitting x0 x1) := by
  refine hf_met rfl (by decide) (by decide) (by decide) ?_
  show hf_J M_X12_fitting 0 [(0, 2, x0), (1, 0, x1)] [] _
  refine hf_ald_n (pc := 0) 0 rfl rfl dX12_fitting_0 ?_
  refine hf_iconst (pc := 1) dX12_fitting_1 ?_
  refine hf_putf (pc := 2) fl_X12_127 trivial dX12_fitting_2 ?_
  refine hf_ald_n (pc := 5) 0 rfl rfl dX12_fitting_5 ?_
  refine hf_cV (pc := 6) (N := M_X12_layCounts) (ts := []) (vs := []) (st := []) (fun r => []) (c_X12_layCounts x0) cal_X12_layCounts ml_X12_399 ⟨hf_le rfl, hf_le rfl⟩ (hf_le rfl) ⟨rfl, rfl⟩ rfl dX12_fitting_6 (fun _ => rfl) (fun _ => ?_)
  refine hf_iconst (pc := 9) dX12_fitting_9 ?_
  refine hf_ist_n (pc := 10) (lv' := [(2, 0, 0), (0, 2, x0), (1, 0, x1)]) rfl (by decide) rfl dX12_fitting_10 ?_
  refine hf_iconst (pc := 11) dX12_fitting_11 ?_
  refine hf_ist_n (pc := 12) (lv' := [(3, 0, 0), (2, 0, 0), (0, 2, x0), (1, 0, x1)]) rfl (by decide) rfl dX12_fitting_12 ?_
  exact hf_sub [2, 3, 1, 0] rfl (j_X12_fitting_13 x0 x1 0 0)
/-! HighFallModel.doubt(I)I -/
def M_X12_doubt : hf_D := (yX12_doubt, cX12_doubt, 2, some .int, 3, 69)
def f_X12_doubt (x0 x1 : Int) : hf_M Int :=
  hf_bd (hf_pf 12 2 x0 0) (fun _ => hf_bd (hf_ob 12 x0 (f_X12_isStrength x0 x1)) (fun v7 => hf_cz v7 (¬ v7 = 0) (hf_bd (hf_ob 12 x0 (f_X12_layCounts x0)) (fun _ => hf_bd (hf_ob 12 x0 (f_X12_doubtOf x0 x1)) (fun v21 => hf_ret v21))) (hf_ret (-1))))
theorem cal_X12_doubt : hf_cv M_X12_doubt 12 1 := ⟨⟨ii_X12, kc_X12_doubt, by decide, by decide, by decide +kernel⟩, ki_X12_doubt, kv_X12_doubt, _, rfl, rfl⟩
set_option maxRecDepth 20000 in
theorem c_X12_doubt (x0 x1 : Int) : hf_Met M_X12_doubt [2, 0] [x0, x1] (f_X12_doubt x0 x1) := by
  refine hf_met rfl (by decide) (by decide) (by decide) ?_
  show hf_J M_X12_doubt 0 [(0, 2, x0), (1, 0, x1)] [] _
  refine hf_ald_n (pc := 0) 0 rfl rfl dX12_doubt_0 ?_
  refine hf_iconst (pc := 1) dX12_doubt_1 ?_
  refine hf_putf (pc := 2) fl_X12_127 trivial dX12_doubt_2 ?_
  refine hf_ald_n (pc := 5) 0 rfl rfl dX12_doubt_5 ?_
  refine hf_ild_n (pc := 6) 1 rfl rfl dX12_doubt_6 ?_
  refine hf_cV (pc := 7) (N := M_X12_isStrength) (ts := [0]) (vs := [x1]) (st := []) (fun r => [(0, r)]) (c_X12_isStrength x0 x1) cal_X12_isStrength ml_X12_151 ⟨hf_le rfl, hf_le rfl⟩ (hf_le rfl) ⟨rfl, rfl⟩ rfl dX12_doubt_7 (fun _ => rfl) (fun v7 => ?_)
  refine hf_if_ne (pc := 10) 15 dX12_doubt_10 rfl ?_ ?_
  · refine hf_ald_n (pc := 15) 0 rfl rfl dX12_doubt_15 ?_
    refine hf_cV (pc := 16) (N := M_X12_layCounts) (ts := []) (vs := []) (st := []) (fun r => []) (c_X12_layCounts x0) cal_X12_layCounts ml_X12_399 ⟨hf_le rfl, hf_le rfl⟩ (hf_le rfl) ⟨rfl, rfl⟩ rfl dX12_doubt_16 (fun _ => rfl) (fun _ => ?_)
    refine hf_ald_n (pc := 19) 0 rfl rfl dX12_doubt_19 ?_
    refine hf_ild_n (pc := 20) 1 rfl rfl dX12_doubt_20 ?_
    refine hf_cV (pc := 21) (N := M_X12_doubtOf) (ts := [0]) (vs := [x1]) (st := []) (fun r => [(0, r)]) (c_X12_doubtOf x0 x1) cal_X12_doubtOf ml_X12_402 ⟨hf_le rfl, hf_le rfl⟩ (hf_le rfl) ⟨rfl, rfl⟩ rfl dX12_doubt_21 (fun _ => rfl) (fun v21 => ?_)
    exact hf_Jret (pc := 24) dX12_doubt_24 (fun _ => rfl)
  · refine hf_iconst (pc := 13) dX12_doubt_13 ?_
    exact hf_Jret (pc := 14) dX12_doubt_14 (fun _ => rfl)
/-! HighFallModel.leastDoubted()I -/
def M_X12_leastDoubted : hf_D := (yX12_leastDoubted, cX12_leastDoubted, 3, some .int, 3, 69)
def B_X12_leastDoubted_4 (x0 : Int) (rec_4 : Int × Int → hf_M Int) (x1 x2 : Int) : hf_M Int :=
  hf_bd (hf_gf 12 3 x0) (fun v6 => hf_cb x2 v6 (v6 < x2) (hf_ret x1) (hf_bd (hf_ob 12 x0 (f_X12_doubtOf x0 x2)) (fun v14 => hf_bd (hf_ob 12 x0 (f_X12_doubtOf x0 x1)) (fun v19 => hf_ck (hf_inI v14 ∧ hf_inI v19) (hf_bd (hf_ret (if v19 ≤ v14 then x1 else x2)) (fun w30 => hf_bd (hf_ret (x2 + 1)) (fun x2_31 => rec_4 (w30, x2_31))))))))
def f_X12_leastDoubted_4 (x0 x1 x2 : Int) : hf_M Int := hf_fx (fun rec s => B_X12_leastDoubted_4 x0 rec s.1 s.2) hf_N (x1, x2)
def f_X12_leastDoubted (x0 : Int) : hf_M Int :=
  f_X12_leastDoubted_4 x0 0 1
theorem cal_X12_leastDoubted : hf_cv M_X12_leastDoubted 12 0 := ⟨⟨ii_X12, kc_X12_leastDoubted, by decide, by decide, by decide +kernel⟩, ki_X12_leastDoubted, kv_X12_leastDoubted, _, rfl, rfl⟩
set_option maxRecDepth 20000 in
theorem jb_X12_leastDoubted_4 (x0 : Int) (rec_4 : Int × Int → hf_M Int) (hrec_4 : ∀ s : Int × Int, hf_J M_X12_leastDoubted 4 [(0, 2, x0), (1, 0, s.1), (2, 0, s.2)] [] (rec_4 s)) (x1 x2 : Int) : hf_J M_X12_leastDoubted 4 [(0, 2, x0), (1, 0, x1), (2, 0, x2)] [] (B_X12_leastDoubted_4 x0 rec_4 x1 x2) := by
  refine hf_ild_n (pc := 4) 2 rfl rfl dX12_leastDoubted_4 ?_
  refine hf_ald_n (pc := 5) 0 rfl rfl dX12_leastDoubted_5 ?_
  refine hf_getf (pc := 6) fl_X12_13 dX12_leastDoubted_6 (fun v6 => ?_)
  refine hf_icmp_gt (pc := 9) 37 dX12_leastDoubted_9 rfl ?_ ?_
  · refine hf_ild_n (pc := 37) 1 rfl rfl dX12_leastDoubted_37 ?_
    exact hf_Jret (pc := 38) dX12_leastDoubted_38 (fun _ => rfl)
  · refine hf_ald_n (pc := 12) 0 rfl rfl dX12_leastDoubted_12 ?_
    refine hf_ild_n (pc := 13) 2 rfl rfl dX12_leastDoubted_13 ?_
    refine hf_cV (pc := 14) (N := M_X12_doubtOf) (ts := [0]) (vs := [x2]) (st := []) (fun r => [(0, r)]) (c_X12_doubtOf x0 x2) cal_X12_doubtOf ml_X12_402 ⟨hf_le rfl, hf_le rfl⟩ (hf_le rfl) ⟨rfl, rfl⟩ rfl dX12_leastDoubted_14 (fun _ => rfl) (fun v14 => ?_)
    refine hf_ald_n (pc := 17) 0 rfl rfl dX12_leastDoubted_17 ?_
    refine hf_ild_n (pc := 18) 1 rfl rfl dX12_leastDoubted_18 ?_
    refine hf_cV (pc := 19) (N := M_X12_doubtOf) (ts := [0]) (vs := [x1]) (st := [(0, v14)]) (fun r => [(0, r), (0, v14)]) (c_X12_doubtOf x0 x1) cal_X12_doubtOf ml_X12_402 ⟨hf_le rfl, hf_le rfl⟩ (hf_le rfl) ⟨rfl, rfl⟩ rfl dX12_leastDoubted_19 (fun _ => rfl) (fun v19 => ?_)
    refine hf_Jdib (pc := 22) (pcM := 30) (t := 0) (stM := []) (fun w30 => ?_) (fun a1 a2 => ?_)
    · refine hf_ist_n (pc := 30) (lv' := [(1, 0, w30), (0, 2, x0), (2, 0, x2)]) rfl (by decide) rfl dX12_leastDoubted_30 ?_
      refine hf_iincB (pc := 31) (fun y => [(2, 0, y), (1, 0, w30), (0, 2, x0)]) (q := 2) rfl (by decide) (fun _ => rfl) dX12_leastDoubted_31 (fun x2_31 => ?_)
      refine hf_goto (pc := 34) 4 dX12_leastDoubted_34 rfl ?_
      exact hf_sub [2, 1, 0] rfl (hrec_4 (w30, x2_31))
    · refine hf_icmp_ge (pc := 22) 29 dX12_leastDoubted_22 rfl ?_ ?_
      · refine hf_ild_n (pc := 29) 1 rfl rfl dX12_leastDoubted_29 ?_
        exact a1
      · refine hf_ild_n (pc := 25) 2 rfl rfl dX12_leastDoubted_25 ?_
        refine hf_goto (pc := 26) 30 dX12_leastDoubted_26 rfl ?_
        exact a2
set_option maxRecDepth 20000 in
theorem j_X12_leastDoubted_4 (x0 x1 x2 : Int) : hf_J M_X12_leastDoubted 4 [(0, 2, x0), (1, 0, x1), (2, 0, x2)] [] (f_X12_leastDoubted_4 x0 x1 x2) :=
  hf_Jfx (L := fun s => [(0, 2, x0), (1, 0, s.1), (2, 0, s.2)]) (fun rec hrec s => jb_X12_leastDoubted_4 x0 rec hrec s.1 s.2) hf_N (x1, x2)
set_option maxRecDepth 20000 in
theorem c_X12_leastDoubted (x0 : Int) : hf_Met M_X12_leastDoubted [2] [x0] (f_X12_leastDoubted x0) := by
  refine hf_met rfl (by decide) (by decide) (by decide) ?_
  show hf_J M_X12_leastDoubted 0 [(0, 2, x0)] [] _
  refine hf_iconst (pc := 0) dX12_leastDoubted_0 ?_
  refine hf_ist_n (pc := 1) (lv' := [(1, 0, 0), (0, 2, x0)]) rfl (by decide) rfl dX12_leastDoubted_1 ?_
  refine hf_iconst (pc := 2) dX12_leastDoubted_2 ?_
  refine hf_ist_n (pc := 3) (lv' := [(2, 0, 1), (1, 0, 0), (0, 2, x0)]) rfl (by decide) rfl dX12_leastDoubted_3 ?_
  exact hf_sub [2, 1, 0] rfl (j_X12_leastDoubted_4 x0 0 1)
/-! HighFallModel.least(I)I -/
def M_X12_least : hf_D := (yX12_least, cX12_least, 3, some .int, 4, 91)
def f_X12_least (x0 x1 : Int) : hf_M Int :=
  hf_bd (hf_pf 12 2 x0 0) (fun _ => hf_bd (f_X12_isIn x1 0 1) (fun v8 => hf_cz v8 (¬ v8 = 0) (hf_bd (hf_ob 12 x0 (f_X12_layCounts x0)) (fun _ => hf_bd (hf_ob 12 x0 (f_X12_leastDoubted x0)) (fun v21 => hf_cz x1 (¬ x1 = 0) (hf_ret v21) (hf_bd (hf_ob 12 x0 (f_X12_doubtOf x0 v21)) (fun v31 => hf_ret v31))))) (hf_ret (-1))))
theorem cal_X12_least : hf_cv M_X12_least 12 1 := ⟨⟨ii_X12, kc_X12_least, by decide, by decide, by decide +kernel⟩, ki_X12_least, kv_X12_least, _, rfl, rfl⟩
set_option maxRecDepth 20000 in
theorem c_X12_least (x0 x1 : Int) : hf_Met M_X12_least [2, 0] [x0, x1] (f_X12_least x0 x1) := by
  refine hf_met rfl (by decide) (by decide) (by decide) ?_
  show hf_J M_X12_least 0 [(0, 2, x0), (1, 0, x1)] [] _
  refine hf_ald_n (pc := 0) 0 rfl rfl dX12_least_0 ?_
  refine hf_iconst (pc := 1) dX12_least_1 ?_
  refine hf_putf (pc := 2) fl_X12_127 trivial dX12_least_2 ?_
  refine hf_ild_n (pc := 5) 1 rfl rfl dX12_least_5 ?_
  refine hf_iconst (pc := 6) dX12_least_6 ?_
  refine hf_iconst (pc := 7) dX12_least_7 ?_
  refine hf_cS (pc := 8) (N := M_X12_isIn) (ts := [0, 0, 0]) (vs := [x1, 0, 1]) (st := []) (fun r => [(0, r)]) (c_X12_isIn x1 0 1) cal_X12_isIn ml_X12_133 ⟨hf_le rfl, hf_le rfl⟩ (hf_le rfl) ⟨rfl, rfl⟩ rfl dX12_least_8 (fun _ => rfl) (fun v8 => ?_)
  refine hf_if_ne (pc := 11) 16 dX12_least_11 rfl ?_ ?_
  · refine hf_ald_n (pc := 16) 0 rfl rfl dX12_least_16 ?_
    refine hf_cV (pc := 17) (N := M_X12_layCounts) (ts := []) (vs := []) (st := []) (fun r => []) (c_X12_layCounts x0) cal_X12_layCounts ml_X12_399 ⟨hf_le rfl, hf_le rfl⟩ (hf_le rfl) ⟨rfl, rfl⟩ rfl dX12_least_17 (fun _ => rfl) (fun _ => ?_)
    refine hf_ald_n (pc := 20) 0 rfl rfl dX12_least_20 ?_
    refine hf_cV (pc := 21) (N := M_X12_leastDoubted) (ts := []) (vs := []) (st := []) (fun r => [(0, r)]) (c_X12_leastDoubted x0) cal_X12_leastDoubted ml_X12_405 ⟨hf_le rfl, hf_le rfl⟩ (hf_le rfl) ⟨rfl, rfl⟩ rfl dX12_least_21 (fun _ => rfl) (fun v21 => ?_)
    refine hf_ist_n (pc := 24) (lv' := [(2, 0, v21), (0, 2, x0), (1, 0, x1)]) rfl (by decide) rfl dX12_least_24 ?_
    refine hf_ild_n (pc := 25) 2 rfl rfl dX12_least_25 ?_
    refine hf_if_ne (pc := 26) 37 dX12_least_26 rfl ?_ ?_
    · refine hf_ild_n (pc := 37) 0 rfl rfl dX12_least_37 ?_
      exact hf_Jret (pc := 38) dX12_least_38 (fun _ => rfl)
    · refine hf_ald_n (pc := 29) 1 rfl rfl dX12_least_29 ?_
      refine hf_ild_n (pc := 30) 0 rfl rfl dX12_least_30 ?_
      refine hf_cV (pc := 31) (N := M_X12_doubtOf) (ts := [0]) (vs := [v21]) (st := []) (fun r => [(0, r)]) (c_X12_doubtOf x0 v21) cal_X12_doubtOf ml_X12_402 ⟨hf_le rfl, hf_le rfl⟩ (hf_le rfl) ⟨rfl, rfl⟩ rfl dX12_least_31 (fun _ => rfl) (fun v31 => ?_)
      refine hf_goto (pc := 34) 38 dX12_least_34 rfl ?_
      exact hf_Jret (pc := 38) dX12_least_38 (fun _ => rfl)
  · refine hf_iconst (pc := 14) dX12_least_14 ?_
    exact hf_Jret (pc := 15) dX12_least_15 (fun _ => rfl)
/-! HighFallModel.doubted(I)I -/
def M_X12_doubted : hf_D := (yX12_doubted, cX12_doubted, 5, some .int, 4, 91)
def f_X12_doubted_66 (rec_30 : Int × Int → hf_M Int) (x0 x1 x2 x4 s0 s1 : Int) : hf_M Int :=
  hf_bd (hf_ret (s0 + s1)) (fun x3_67 => hf_bd (hf_ret (x4 + 1)) (fun x4_68 => rec_30 (x3_67, x4_68)))
def B_X12_doubted_30 (x0 x1 x2 : Int) (rec_30 : Int × Int → hf_M Int) (x3 x4 : Int) : hf_M Int :=
  hf_bd (hf_gf 12 57 x0) (fun v33 => hf_cb x4 v33 (v33 ≤ x4) (hf_ret x3) (hf_bd (hf_gf 12 58 x0) (fun v41 => hf_bd (hf_al 20 v41 x4) (fun v46 => hf_cb v46 x1 (¬ v46 = x1) (f_X12_doubted_66 rec_30 x0 x1 x2 x4 x3 0) (hf_bd (hf_ob 12 x0 (f_X12_isAgainst x0 x4 x2)) (fun v55 => hf_cz v55 (v55 = 0) (f_X12_doubted_66 rec_30 x0 x1 x2 x4 x3 0) (f_X12_doubted_66 rec_30 x0 x1 x2 x4 x3 1)))))))
def f_X12_doubted_30 (x0 x1 x2 x3 x4 : Int) : hf_M Int := hf_fx (fun rec s => B_X12_doubted_30 x0 x1 x2 rec s.1 s.2) hf_N (x3, x4)
def f_X12_doubted (x0 x1 : Int) : hf_M Int :=
  hf_bd (hf_pf 12 2 x0 0) (fun _ => hf_bd (f_X12_isIn x1 0 5) (fun v8 => hf_cz v8 (¬ v8 = 0) (hf_bd (hf_ob 12 x0 (f_X12_layCounts x0)) (fun _ => hf_bd (hf_ob 12 x0 (f_X12_leastDoubted x0)) (fun v21 => f_X12_doubted_30 x0 x1 v21 0 0))) (hf_ret (-1))))
theorem cal_X12_doubted : hf_cv M_X12_doubted 12 1 := ⟨⟨ii_X12, kc_X12_doubted, by decide, by decide, by decide +kernel⟩, ki_X12_doubted, kv_X12_doubted, _, rfl, rfl⟩
set_option maxRecDepth 20000 in
theorem j_X12_doubted_66 (x0 x1 x2 x4 s0 s1 : Int) (rec_30 : Int × Int → hf_M Int) (hrec_30 : ∀ s : Int × Int, hf_J M_X12_doubted 30 [(0, 2, x0), (1, 0, x1), (2, 0, x2), (3, 0, s.1), (4, 0, s.2)] [] (rec_30 s)) : hf_J M_X12_doubted 66 [(0, 2, x0), (1, 0, x1), (2, 0, x2), (4, 0, x4)] [(0, s1), (0, s0)] (f_X12_doubted_66 rec_30 x0 x1 x2 x4 s0 s1) := by
  refine hf_iadd (pc := 66) dX12_doubted_66 ?_
  refine hf_ist_nB (pc := 67) (fun y => [(3, 0, y), (0, 2, x0), (1, 0, x1), (2, 0, x2), (4, 0, x4)]) rfl (by decide) (fun _ => rfl) dX12_doubted_67 (fun x3_67 => ?_)
  refine hf_iincB (pc := 68) (fun y => [(4, 0, y), (3, 0, x3_67), (0, 2, x0), (1, 0, x1), (2, 0, x2)]) (q := 4) rfl (by decide) (fun _ => rfl) dX12_doubted_68 (fun x4_68 => ?_)
  refine hf_goto (pc := 71) 30 dX12_doubted_71 rfl ?_
  exact hf_sub [2, 3, 4, 1, 0] rfl (hrec_30 (x3_67, x4_68))
set_option maxRecDepth 20000 in
theorem jb_X12_doubted_30 (x0 x1 x2 : Int) (rec_30 : Int × Int → hf_M Int) (hrec_30 : ∀ s : Int × Int, hf_J M_X12_doubted 30 [(0, 2, x0), (1, 0, x1), (2, 0, x2), (3, 0, s.1), (4, 0, s.2)] [] (rec_30 s)) (x3 x4 : Int) : hf_J M_X12_doubted 30 [(0, 2, x0), (1, 0, x1), (2, 0, x2), (3, 0, x3), (4, 0, x4)] [] (B_X12_doubted_30 x0 x1 x2 rec_30 x3 x4) := by
  refine hf_ild (pc := 30) 4 rfl dX12_doubted_30 ?_
  refine hf_ald_n (pc := 32) 0 rfl rfl dX12_doubted_32 ?_
  refine hf_getf (pc := 33) fl_X12_137 dX12_doubted_33 (fun v33 => ?_)
  refine hf_icmp_ge (pc := 36) 74 dX12_doubted_36 rfl ?_ ?_
  · refine hf_ild_n (pc := 74) 3 rfl rfl dX12_doubted_74 ?_
    exact hf_Jret (pc := 75) dX12_doubted_75 (fun _ => rfl)
  · refine hf_ild_n (pc := 39) 3 rfl rfl dX12_doubted_39 ?_
    refine hf_ald_n (pc := 40) 0 rfl rfl dX12_doubted_40 ?_
    refine hf_getf (pc := 41) fl_X12_102 dX12_doubted_41 (fun v41 => ?_)
    refine hf_ild (pc := 44) 4 rfl dX12_doubted_44 ?_
    refine hf_iald (pc := 46) dX12_doubted_46 (fun v46 => ?_)
    refine hf_ild_n (pc := 47) 1 rfl rfl dX12_doubted_47 ?_
    refine hf_icmp_ne (pc := 48) 65 dX12_doubted_48 rfl ?_ ?_
    · refine hf_iconst (pc := 65) dX12_doubted_65 ?_
      exact hf_sub [0, 1, 2, 4] rfl (j_X12_doubted_66 x0 x1 x2 x4 x3 0 rec_30 hrec_30)
    · refine hf_ald_n (pc := 51) 0 rfl rfl dX12_doubted_51 ?_
      refine hf_ild (pc := 52) 4 rfl dX12_doubted_52 ?_
      refine hf_ild_n (pc := 54) 2 rfl rfl dX12_doubted_54 ?_
      refine hf_cV (pc := 55) (N := M_X12_isAgainst) (ts := [0, 0]) (vs := [x4, x2]) (st := [(0, x3)]) (fun r => [(0, r), (0, x3)]) (c_X12_isAgainst x0 x4 x2) cal_X12_isAgainst ml_X12_396 ⟨hf_le rfl, hf_le rfl⟩ (hf_le rfl) ⟨rfl, rfl⟩ rfl dX12_doubted_55 (fun _ => rfl) (fun v55 => ?_)
      refine hf_if_eq (pc := 58) 65 dX12_doubted_58 rfl ?_ ?_
      · refine hf_iconst (pc := 65) dX12_doubted_65 ?_
        exact hf_sub [0, 1, 2, 4] rfl (j_X12_doubted_66 x0 x1 x2 x4 x3 0 rec_30 hrec_30)
      · refine hf_iconst (pc := 61) dX12_doubted_61 ?_
        refine hf_goto (pc := 62) 66 dX12_doubted_62 rfl ?_
        exact hf_sub [0, 1, 2, 4] rfl (j_X12_doubted_66 x0 x1 x2 x4 x3 1 rec_30 hrec_30)
set_option maxRecDepth 20000 in
theorem j_X12_doubted_30 (x0 x1 x2 x3 x4 : Int) : hf_J M_X12_doubted 30 [(0, 2, x0), (1, 0, x1), (2, 0, x2), (3, 0, x3), (4, 0, x4)] [] (f_X12_doubted_30 x0 x1 x2 x3 x4) :=
  hf_Jfx (L := fun s => [(0, 2, x0), (1, 0, x1), (2, 0, x2), (3, 0, s.1), (4, 0, s.2)]) (fun rec hrec s => jb_X12_doubted_30 x0 x1 x2 rec hrec s.1 s.2) hf_N (x3, x4)
set_option maxRecDepth 20000 in
theorem c_X12_doubted (x0 x1 : Int) : hf_Met M_X12_doubted [2, 0] [x0, x1] (f_X12_doubted x0 x1) := by
  refine hf_met rfl (by decide) (by decide) (by decide) ?_
  show hf_J M_X12_doubted 0 [(0, 2, x0), (1, 0, x1)] [] _
  refine hf_ald_n (pc := 0) 0 rfl rfl dX12_doubted_0 ?_
  refine hf_iconst (pc := 1) dX12_doubted_1 ?_
  refine hf_putf (pc := 2) fl_X12_127 trivial dX12_doubted_2 ?_
  refine hf_ild_n (pc := 5) 1 rfl rfl dX12_doubted_5 ?_
  refine hf_iconst (pc := 6) dX12_doubted_6 ?_
  refine hf_iconst (pc := 7) dX12_doubted_7 ?_
  refine hf_cS (pc := 8) (N := M_X12_isIn) (ts := [0, 0, 0]) (vs := [x1, 0, 5]) (st := []) (fun r => [(0, r)]) (c_X12_isIn x1 0 5) cal_X12_isIn ml_X12_133 ⟨hf_le rfl, hf_le rfl⟩ (hf_le rfl) ⟨rfl, rfl⟩ rfl dX12_doubted_8 (fun _ => rfl) (fun v8 => ?_)
  refine hf_if_ne (pc := 11) 16 dX12_doubted_11 rfl ?_ ?_
  · refine hf_ald_n (pc := 16) 0 rfl rfl dX12_doubted_16 ?_
    refine hf_cV (pc := 17) (N := M_X12_layCounts) (ts := []) (vs := []) (st := []) (fun r => []) (c_X12_layCounts x0) cal_X12_layCounts ml_X12_399 ⟨hf_le rfl, hf_le rfl⟩ (hf_le rfl) ⟨rfl, rfl⟩ rfl dX12_doubted_17 (fun _ => rfl) (fun _ => ?_)
    refine hf_ald_n (pc := 20) 0 rfl rfl dX12_doubted_20 ?_
    refine hf_cV (pc := 21) (N := M_X12_leastDoubted) (ts := []) (vs := []) (st := []) (fun r => [(0, r)]) (c_X12_leastDoubted x0) cal_X12_leastDoubted ml_X12_405 ⟨hf_le rfl, hf_le rfl⟩ (hf_le rfl) ⟨rfl, rfl⟩ rfl dX12_doubted_21 (fun _ => rfl) (fun v21 => ?_)
    refine hf_ist_n (pc := 24) (lv' := [(2, 0, v21), (0, 2, x0), (1, 0, x1)]) rfl (by decide) rfl dX12_doubted_24 ?_
    refine hf_iconst (pc := 25) dX12_doubted_25 ?_
    refine hf_ist_n (pc := 26) (lv' := [(3, 0, 0), (2, 0, v21), (0, 2, x0), (1, 0, x1)]) rfl (by decide) rfl dX12_doubted_26 ?_
    refine hf_iconst (pc := 27) dX12_doubted_27 ?_
    refine hf_ist (pc := 28) (lv' := [(4, 0, 0), (3, 0, 0), (2, 0, v21), (0, 2, x0), (1, 0, x1)]) (by decide) rfl dX12_doubted_28 ?_
    exact hf_sub [3, 4, 2, 1, 0] rfl (j_X12_doubted_30 x0 x1 v21 0 0)
  · refine hf_iconst (pc := 14) dX12_doubted_14 ?_
    exact hf_Jret (pc := 15) dX12_doubted_15 (fun _ => rfl)
/-! HighFallModel.parts(I)I -/
def M_X12_parts : hf_D := (yX12_parts, cX12_parts, 8, some .int, 3, 69)
def f_X12_parts_103 (rec_25 : Int × Int × Int → hf_M Int) (rec_43 : Int × Int × Int → hf_M Int) (x0 x1 x2 x3 x4 x5 x6 x7 : Int) : hf_M Int :=
  hf_bd (hf_ret (x7 + 1)) (fun x7_103 => rec_43 (x5, x6, x7_103))
def f_X12_parts_100 (rec_25 : Int × Int × Int → hf_M Int) (rec_43 : Int × Int × Int → hf_M Int) (x0 x1 x2 x3 x4 x6 x7 s0 s1 : Int) : hf_M Int :=
  hf_bd (hf_ret (s0 + s1)) (fun x5_101 => f_X12_parts_103 rec_25 rec_43 x0 x1 x2 x3 x4 x5_101 x6 x7)
def f_X12_parts_149 (rec_25 : Int × Int × Int → hf_M Int) (x0 x1 x2 x3 x4 : Int) : hf_M Int :=
  hf_bd (hf_ret (x4 + 1)) (fun x4_149 => rec_25 (x2, x3, x4_149))
def f_X12_parts_143 (rec_25 : Int × Int × Int → hf_M Int) (x0 x1 x4 x5 : Int) : hf_M Int :=
  f_X12_parts_149 rec_25 x0 x1 x4 x5 x4
def B_X12_parts_43 (rec_25 : Int × Int × Int → hf_M Int) (x0 x1 x2 x3 x4 : Int) (rec_43 : Int × Int × Int → hf_M Int) (x5 x6 x7 : Int) : hf_M Int :=
  hf_bd (hf_gf 12 3 x0) (fun v46 => hf_cb x7 v46 (v46 < x7) (hf_ck (hf_inI x5) (hf_bd (hf_ret (if 0 ≤ x5 then x5 else (-x5))) (fun w122 => hf_cz x6 (x6 = 0) (f_X12_parts_149 rec_25 x0 x1 x2 x3 x4) (hf_cb x2 (-1) (x2 = (-1)) (f_X12_parts_143 rec_25 x0 x1 x4 w122) (hf_cb w122 x3 (w122 < x3) (f_X12_parts_143 rec_25 x0 x1 x4 w122) (f_X12_parts_149 rec_25 x0 x1 x2 x3 x4)))))) (hf_bd (hf_ob 12 x0 (f_X12_doubtOf x0 x7)) (fun v55 => hf_cz v55 (v55 ≤ 0) (hf_ck (hf_inI x4) (hf_bd (hf_ob 12 x0 (f_X12_breaks x0 x7 x1 x4)) (fun v76 => hf_cz v76 (v76 = 0) (hf_bd (hf_gf 12 7 x0) (fun v93 => hf_bd (hf_al 20 v93 x7) (fun v98 => f_X12_parts_100 rec_25 rec_43 x0 x1 x2 x3 x4 1 x7 x5 (-v98)))) (hf_bd (hf_gf 12 7 x0) (fun v83 => hf_bd (hf_al 20 v83 x7) (fun v88 => f_X12_parts_100 rec_25 rec_43 x0 x1 x2 x3 x4 1 x7 x5 v88)))))) (f_X12_parts_103 rec_25 rec_43 x0 x1 x2 x3 x4 x5 x6 x7))))
def f_X12_parts_43 (rec_25 : Int × Int × Int → hf_M Int) (x0 x1 x2 x3 x4 x5 x6 x7 : Int) : hf_M Int := hf_fx (fun rec s => B_X12_parts_43 rec_25 x0 x1 x2 x3 x4 rec s.1 s.2.1 s.2.2) hf_N (x5, x6, x7)
def B_X12_parts_25 (x0 x1 : Int) (rec_25 : Int × Int × Int → hf_M Int) (x2 x3 x4 : Int) : hf_M Int :=
  hf_bd (hf_gf 12 3 x0) (fun v28 => hf_cb x4 v28 (v28 < x4) (hf_ret x2) (f_X12_parts_43 rec_25 x0 x1 x2 x3 x4 0 0 0))
def f_X12_parts_25 (x0 x1 x2 x3 x4 : Int) : hf_M Int := hf_fx (fun rec s => B_X12_parts_25 x0 x1 rec s.1 s.2.1 s.2.2) hf_N (x2, x3, x4)
def f_X12_parts (x0 x1 : Int) : hf_M Int :=
  hf_bd (hf_pf 12 2 x0 0) (fun _ => hf_bd (f_X12_isKind x1) (fun v6 => hf_cz v6 (¬ v6 = 0) (hf_bd (hf_ob 12 x0 (f_X12_layCounts x0)) (fun _ => f_X12_parts_25 x0 x1 (-1) 0 1)) (hf_ret (-1))))
theorem cal_X12_parts : hf_cv M_X12_parts 12 1 := ⟨⟨ii_X12, kc_X12_parts, by decide, by decide, by decide +kernel⟩, ki_X12_parts, kv_X12_parts, _, rfl, rfl⟩
set_option maxRecDepth 20000 in
theorem j_X12_parts_103 (x0 x1 x2 x3 x4 x5 x6 x7 : Int) (rec_25 : Int × Int × Int → hf_M Int) (hrec_25 : ∀ s : Int × Int × Int, hf_J M_X12_parts 25 [(0, 2, x0), (1, 0, x1), (2, 0, s.1), (3, 0, s.2.1), (4, 0, s.2.2)] [] (rec_25 s)) (rec_43 : Int × Int × Int → hf_M Int) (hrec_43 : ∀ s : Int × Int × Int, hf_J M_X12_parts 43 [(0, 2, x0), (1, 0, x1), (2, 0, x2), (3, 0, x3), (4, 0, x4), (5, 0, s.1), (6, 0, s.2.1), (7, 0, s.2.2)] [] (rec_43 s)) : hf_J M_X12_parts 103 [(0, 2, x0), (1, 0, x1), (2, 0, x2), (3, 0, x3), (4, 0, x4), (5, 0, x5), (6, 0, x6), (7, 0, x7)] [] (f_X12_parts_103 rec_25 rec_43 x0 x1 x2 x3 x4 x5 x6 x7) := by
  refine hf_iincB (pc := 103) (fun y => [(7, 0, y), (0, 2, x0), (1, 0, x1), (2, 0, x2), (3, 0, x3), (4, 0, x4), (5, 0, x5), (6, 0, x6)]) (q := 7) rfl (by decide) (fun _ => rfl) dX12_parts_103 (fun x7_103 => ?_)
  refine hf_goto (pc := 106) 43 dX12_parts_106 rfl ?_
  exact hf_sub [1, 2, 3, 4, 5, 6, 7, 0] rfl (hrec_43 (x5, x6, x7_103))
set_option maxRecDepth 20000 in
theorem j_X12_parts_100 (x0 x1 x2 x3 x4 x6 x7 s0 s1 : Int) (rec_25 : Int × Int × Int → hf_M Int) (hrec_25 : ∀ s : Int × Int × Int, hf_J M_X12_parts 25 [(0, 2, x0), (1, 0, x1), (2, 0, s.1), (3, 0, s.2.1), (4, 0, s.2.2)] [] (rec_25 s)) (rec_43 : Int × Int × Int → hf_M Int) (hrec_43 : ∀ s : Int × Int × Int, hf_J M_X12_parts 43 [(0, 2, x0), (1, 0, x1), (2, 0, x2), (3, 0, x3), (4, 0, x4), (5, 0, s.1), (6, 0, s.2.1), (7, 0, s.2.2)] [] (rec_43 s)) : hf_J M_X12_parts 100 [(0, 2, x0), (1, 0, x1), (2, 0, x2), (3, 0, x3), (4, 0, x4), (6, 0, x6), (7, 0, x7)] [(0, s1), (0, s0)] (f_X12_parts_100 rec_25 rec_43 x0 x1 x2 x3 x4 x6 x7 s0 s1) := by
  refine hf_iadd (pc := 100) dX12_parts_100 ?_
  refine hf_istB (pc := 101) (fun y => [(5, 0, y), (0, 2, x0), (1, 0, x1), (2, 0, x2), (3, 0, x3), (4, 0, x4), (6, 0, x6), (7, 0, x7)]) (by decide) (fun _ => rfl) dX12_parts_101 (fun x5_101 => ?_)
  exact hf_sub [1, 2, 3, 4, 5, 0, 6, 7] rfl (j_X12_parts_103 x0 x1 x2 x3 x4 x5_101 x6 x7 rec_25 hrec_25 rec_43 hrec_43)
set_option maxRecDepth 20000 in
theorem j_X12_parts_149 (x0 x1 x2 x3 x4 : Int) (rec_25 : Int × Int × Int → hf_M Int) (hrec_25 : ∀ s : Int × Int × Int, hf_J M_X12_parts 25 [(0, 2, x0), (1, 0, x1), (2, 0, s.1), (3, 0, s.2.1), (4, 0, s.2.2)] [] (rec_25 s)) : hf_J M_X12_parts 149 [(0, 2, x0), (1, 0, x1), (2, 0, x2), (3, 0, x3), (4, 0, x4)] [] (f_X12_parts_149 rec_25 x0 x1 x2 x3 x4) := by
  refine hf_iincB (pc := 149) (fun y => [(4, 0, y), (0, 2, x0), (1, 0, x1), (2, 0, x2), (3, 0, x3)]) (q := 4) rfl (by decide) (fun _ => rfl) dX12_parts_149 (fun x4_149 => ?_)
  refine hf_goto (pc := 152) 25 dX12_parts_152 rfl ?_
  exact hf_sub [1, 2, 3, 4, 0] rfl (hrec_25 (x2, x3, x4_149))
set_option maxRecDepth 20000 in
theorem j_X12_parts_143 (x0 x1 x4 x5 : Int) (rec_25 : Int × Int × Int → hf_M Int) (hrec_25 : ∀ s : Int × Int × Int, hf_J M_X12_parts 25 [(0, 2, x0), (1, 0, x1), (2, 0, s.1), (3, 0, s.2.1), (4, 0, s.2.2)] [] (rec_25 s)) : hf_J M_X12_parts 143 [(0, 2, x0), (1, 0, x1), (4, 0, x4), (5, 0, x5)] [] (f_X12_parts_143 rec_25 x0 x1 x4 x5) := by
  refine hf_ild (pc := 143) 2 rfl dX12_parts_143 ?_
  refine hf_ist_n (pc := 145) (lv' := [(2, 0, x4), (0, 2, x0), (1, 0, x1), (4, 0, x4), (5, 0, x5)]) rfl (by decide) rfl dX12_parts_145 ?_
  refine hf_ild (pc := 146) 4 rfl dX12_parts_146 ?_
  refine hf_ist_n (pc := 148) (lv' := [(3, 0, x5), (2, 0, x4), (0, 2, x0), (1, 0, x1), (4, 0, x4), (5, 0, x5)]) rfl (by decide) rfl dX12_parts_148 ?_
  exact hf_sub [2, 3, 1, 0, 4] rfl (j_X12_parts_149 x0 x1 x4 x5 x4 rec_25 hrec_25)
set_option maxRecDepth 20000 in
theorem jb_X12_parts_43 (x0 x1 x2 x3 x4 : Int) (rec_25 : Int × Int × Int → hf_M Int) (hrec_25 : ∀ s : Int × Int × Int, hf_J M_X12_parts 25 [(0, 2, x0), (1, 0, x1), (2, 0, s.1), (3, 0, s.2.1), (4, 0, s.2.2)] [] (rec_25 s)) (rec_43 : Int × Int × Int → hf_M Int) (hrec_43 : ∀ s : Int × Int × Int, hf_J M_X12_parts 43 [(0, 2, x0), (1, 0, x1), (2, 0, x2), (3, 0, x3), (4, 0, x4), (5, 0, s.1), (6, 0, s.2.1), (7, 0, s.2.2)] [] (rec_43 s)) (x5 x6 x7 : Int) : hf_J M_X12_parts 43 [(0, 2, x0), (1, 0, x1), (2, 0, x2), (3, 0, x3), (4, 0, x4), (5, 0, x5), (6, 0, x6), (7, 0, x7)] [] (B_X12_parts_43 rec_25 x0 x1 x2 x3 x4 rec_43 x5 x6 x7) := by
  refine hf_ild (pc := 43) 7 rfl dX12_parts_43 ?_
  refine hf_ald_n (pc := 45) 0 rfl rfl dX12_parts_45 ?_
  refine hf_getf (pc := 46) fl_X12_13 dX12_parts_46 (fun v46 => ?_)
  refine hf_icmp_gt (pc := 49) 109 dX12_parts_49 rfl ?_ ?_
  · refine hf_ild (pc := 109) 5 rfl dX12_parts_109 ?_
    refine hf_Jdiz (pc := 111) (pcM := 122) (t := 0) (stM := []) (fun w122 => ?_) (fun a1 a2 => ?_)
    · refine hf_ist (pc := 122) (lv' := [(5, 0, w122), (0, 2, x0), (1, 0, x1), (2, 0, x2), (3, 0, x3), (4, 0, x4), (6, 0, x6), (7, 0, x7)]) (by decide) rfl dX12_parts_122 ?_
      refine hf_ild (pc := 124) 6 rfl dX12_parts_124 ?_
      refine hf_if_eq (pc := 126) 149 dX12_parts_126 rfl ?_ ?_
      · exact hf_sub [1, 2, 3, 4, 5] rfl (j_X12_parts_149 x0 x1 x2 x3 x4 rec_25 hrec_25)
      · refine hf_ild_n (pc := 129) 3 rfl rfl dX12_parts_129 ?_
        refine hf_iconst (pc := 130) dX12_parts_130 ?_
        refine hf_icmp_eq (pc := 131) 143 dX12_parts_131 rfl ?_ ?_
        · exact hf_sub [1, 2, 5, 0] rfl (j_X12_parts_143 x0 x1 x4 w122 rec_25 hrec_25)
        · refine hf_ild (pc := 134) 0 rfl dX12_parts_134 ?_
          refine hf_ild_n (pc := 136) 4 rfl rfl dX12_parts_136 ?_
          refine hf_icmp_lt (pc := 137) 143 dX12_parts_137 rfl ?_ ?_
          · exact hf_sub [1, 2, 5, 0] rfl (j_X12_parts_143 x0 x1 x4 w122 rec_25 hrec_25)
          · refine hf_goto (pc := 140) 149 dX12_parts_140 rfl ?_
            exact hf_sub [1, 2, 3, 4, 5] rfl (j_X12_parts_149 x0 x1 x2 x3 x4 rec_25 hrec_25)
    · refine hf_if_ge (pc := 111) 120 dX12_parts_111 rfl ?_ ?_
      · refine hf_ild (pc := 120) 5 rfl dX12_parts_120 ?_
        exact a1
      · refine hf_ild (pc := 114) 5 rfl dX12_parts_114 ?_
        refine hf_ineg (pc := 116) dX12_parts_116 ?_
        refine hf_goto (pc := 117) 122 dX12_parts_117 rfl ?_
        exact a2
  · refine hf_ald_n (pc := 52) 0 rfl rfl dX12_parts_52 ?_
    refine hf_ild (pc := 53) 7 rfl dX12_parts_53 ?_
    refine hf_cV (pc := 55) (N := M_X12_doubtOf) (ts := [0]) (vs := [x7]) (st := []) (fun r => [(0, r)]) (c_X12_doubtOf x0 x7) cal_X12_doubtOf ml_X12_402 ⟨hf_le rfl, hf_le rfl⟩ (hf_le rfl) ⟨rfl, rfl⟩ rfl dX12_parts_55 (fun _ => rfl) (fun v55 => ?_)
    refine hf_if_le (pc := 58) 64 dX12_parts_58 rfl ?_ ?_
    · refine hf_iconst (pc := 64) dX12_parts_64 ?_
      refine hf_ist (pc := 65) (lv' := [(6, 0, 1), (0, 2, x0), (1, 0, x1), (2, 0, x2), (3, 0, x3), (4, 0, x4), (5, 0, x5), (7, 0, x7)]) (by decide) rfl dX12_parts_65 ?_
      refine hf_ild (pc := 67) 6 rfl dX12_parts_67 ?_
      refine hf_ald_n (pc := 69) 1 rfl rfl dX12_parts_69 ?_
      refine hf_ild (pc := 70) 7 rfl dX12_parts_70 ?_
      refine hf_ild_n (pc := 72) 2 rfl rfl dX12_parts_72 ?_
      refine hf_ild (pc := 73) 5 rfl dX12_parts_73 ?_
      refine hf_i2l (pc := 75) dX12_parts_75 ?_
      refine hf_cV (pc := 76) (N := M_X12_breaks) (ts := [0, 0, 1]) (vs := [x7, x1, x4]) (st := [(0, x5)]) (fun r => [(0, r), (0, x5)]) (c_X12_breaks x0 x7 x1 x4) cal_X12_breaks ml_X12_326 ⟨hf_le rfl, hf_le rfl⟩ (hf_le rfl) ⟨rfl, rfl⟩ rfl dX12_parts_76 (fun _ => rfl) (fun v76 => ?_)
      refine hf_if_eq (pc := 79) 92 dX12_parts_79 rfl ?_ ?_
      · refine hf_ald_n (pc := 92) 1 rfl rfl dX12_parts_92 ?_
        refine hf_getf (pc := 93) fl_X12_26 dX12_parts_93 (fun v93 => ?_)
        refine hf_ild (pc := 96) 7 rfl dX12_parts_96 ?_
        refine hf_iald (pc := 98) dX12_parts_98 (fun v98 => ?_)
        refine hf_ineg (pc := 99) dX12_parts_99 ?_
        exact hf_sub [1, 2, 3, 4, 5, 0, 7] rfl (j_X12_parts_100 x0 x1 x2 x3 x4 1 x7 x5 (-v98) rec_25 hrec_25 rec_43 hrec_43)
      · refine hf_ald_n (pc := 82) 1 rfl rfl dX12_parts_82 ?_
        refine hf_getf (pc := 83) fl_X12_26 dX12_parts_83 (fun v83 => ?_)
        refine hf_ild (pc := 86) 7 rfl dX12_parts_86 ?_
        refine hf_iald (pc := 88) dX12_parts_88 (fun v88 => ?_)
        refine hf_goto (pc := 89) 100 dX12_parts_89 rfl ?_
        exact hf_sub [1, 2, 3, 4, 5, 0, 7] rfl (j_X12_parts_100 x0 x1 x2 x3 x4 1 x7 x5 v88 rec_25 hrec_25 rec_43 hrec_43)
    · refine hf_goto (pc := 61) 103 dX12_parts_61 rfl ?_
      exact hf_sub [0, 1, 2, 3, 4, 5, 6, 7] rfl (j_X12_parts_103 x0 x1 x2 x3 x4 x5 x6 x7 rec_25 hrec_25 rec_43 hrec_43)
set_option maxRecDepth 20000 in
theorem j_X12_parts_43 (x0 x1 x2 x3 x4 x5 x6 x7 : Int) (rec_25 : Int × Int × Int → hf_M Int) (hrec_25 : ∀ s : Int × Int × Int, hf_J M_X12_parts 25 [(0, 2, x0), (1, 0, x1), (2, 0, s.1), (3, 0, s.2.1), (4, 0, s.2.2)] [] (rec_25 s)) : hf_J M_X12_parts 43 [(0, 2, x0), (1, 0, x1), (2, 0, x2), (3, 0, x3), (4, 0, x4), (5, 0, x5), (6, 0, x6), (7, 0, x7)] [] (f_X12_parts_43 rec_25 x0 x1 x2 x3 x4 x5 x6 x7) :=
  hf_Jfx (L := fun s => [(0, 2, x0), (1, 0, x1), (2, 0, x2), (3, 0, x3), (4, 0, x4), (5, 0, s.1), (6, 0, s.2.1), (7, 0, s.2.2)]) (fun rec hrec s => jb_X12_parts_43 x0 x1 x2 x3 x4 rec_25 hrec_25 rec hrec s.1 s.2.1 s.2.2) hf_N (x5, x6, x7)
set_option maxRecDepth 20000 in
theorem jb_X12_parts_25 (x0 x1 : Int) (rec_25 : Int × Int × Int → hf_M Int) (hrec_25 : ∀ s : Int × Int × Int, hf_J M_X12_parts 25 [(0, 2, x0), (1, 0, x1), (2, 0, s.1), (3, 0, s.2.1), (4, 0, s.2.2)] [] (rec_25 s)) (x2 x3 x4 : Int) : hf_J M_X12_parts 25 [(0, 2, x0), (1, 0, x1), (2, 0, x2), (3, 0, x3), (4, 0, x4)] [] (B_X12_parts_25 x0 x1 rec_25 x2 x3 x4) := by
  refine hf_ild (pc := 25) 4 rfl dX12_parts_25 ?_
  refine hf_ald_n (pc := 27) 0 rfl rfl dX12_parts_27 ?_
  refine hf_getf (pc := 28) fl_X12_13 dX12_parts_28 (fun v28 => ?_)
  refine hf_icmp_gt (pc := 31) 155 dX12_parts_31 rfl ?_ ?_
  · refine hf_ild_n (pc := 155) 2 rfl rfl dX12_parts_155 ?_
    exact hf_Jret (pc := 156) dX12_parts_156 (fun _ => rfl)
  · refine hf_iconst (pc := 34) dX12_parts_34 ?_
    refine hf_ist (pc := 35) (lv' := [(5, 0, 0), (0, 2, x0), (1, 0, x1), (2, 0, x2), (3, 0, x3), (4, 0, x4)]) (by decide) rfl dX12_parts_35 ?_
    refine hf_iconst (pc := 37) dX12_parts_37 ?_
    refine hf_ist (pc := 38) (lv' := [(6, 0, 0), (5, 0, 0), (0, 2, x0), (1, 0, x1), (2, 0, x2), (3, 0, x3), (4, 0, x4)]) (by decide) rfl dX12_parts_38 ?_
    refine hf_iconst (pc := 40) dX12_parts_40 ?_
    refine hf_ist (pc := 41) (lv' := [(7, 0, 0), (6, 0, 0), (5, 0, 0), (0, 2, x0), (1, 0, x1), (2, 0, x2), (3, 0, x3), (4, 0, x4)]) (by decide) rfl dX12_parts_41 ?_
    exact hf_sub [3, 4, 5, 6, 7, 2, 1, 0] rfl (j_X12_parts_43 x0 x1 x2 x3 x4 0 0 0 rec_25 hrec_25)
set_option maxRecDepth 20000 in
theorem j_X12_parts_25 (x0 x1 x2 x3 x4 : Int) : hf_J M_X12_parts 25 [(0, 2, x0), (1, 0, x1), (2, 0, x2), (3, 0, x3), (4, 0, x4)] [] (f_X12_parts_25 x0 x1 x2 x3 x4) :=
  hf_Jfx (L := fun s => [(0, 2, x0), (1, 0, x1), (2, 0, s.1), (3, 0, s.2.1), (4, 0, s.2.2)]) (fun rec hrec s => jb_X12_parts_25 x0 x1 rec hrec s.1 s.2.1 s.2.2) hf_N (x2, x3, x4)
set_option maxRecDepth 20000 in
theorem c_X12_parts (x0 x1 : Int) : hf_Met M_X12_parts [2, 0] [x0, x1] (f_X12_parts x0 x1) := by
  refine hf_met rfl (by decide) (by decide) (by decide) ?_
  show hf_J M_X12_parts 0 [(0, 2, x0), (1, 0, x1)] [] _
  refine hf_ald_n (pc := 0) 0 rfl rfl dX12_parts_0 ?_
  refine hf_iconst (pc := 1) dX12_parts_1 ?_
  refine hf_putf (pc := 2) fl_X12_127 trivial dX12_parts_2 ?_
  refine hf_ild_n (pc := 5) 1 rfl rfl dX12_parts_5 ?_
  refine hf_cS (pc := 6) (N := M_X12_isKind) (ts := [0]) (vs := [x1]) (st := []) (fun r => [(0, r)]) (c_X12_isKind x1) cal_X12_isKind ml_X12_144 ⟨hf_le rfl, hf_le rfl⟩ (hf_le rfl) ⟨rfl, rfl⟩ rfl dX12_parts_6 (fun _ => rfl) (fun v6 => ?_)
  refine hf_if_ne (pc := 9) 14 dX12_parts_9 rfl ?_ ?_
  · refine hf_ald_n (pc := 14) 0 rfl rfl dX12_parts_14 ?_
    refine hf_cV (pc := 15) (N := M_X12_layCounts) (ts := []) (vs := []) (st := []) (fun r => []) (c_X12_layCounts x0) cal_X12_layCounts ml_X12_399 ⟨hf_le rfl, hf_le rfl⟩ (hf_le rfl) ⟨rfl, rfl⟩ rfl dX12_parts_15 (fun _ => rfl) (fun _ => ?_)
    refine hf_iconst (pc := 18) dX12_parts_18 ?_
    refine hf_ist_n (pc := 19) (lv' := [(2, 0, (-1)), (0, 2, x0), (1, 0, x1)]) rfl (by decide) rfl dX12_parts_19 ?_
    refine hf_iconst (pc := 20) dX12_parts_20 ?_
    refine hf_ist_n (pc := 21) (lv' := [(3, 0, 0), (2, 0, (-1)), (0, 2, x0), (1, 0, x1)]) rfl (by decide) rfl dX12_parts_21 ?_
    refine hf_iconst (pc := 22) dX12_parts_22 ?_
    refine hf_ist (pc := 23) (lv' := [(4, 0, 1), (3, 0, 0), (2, 0, (-1)), (0, 2, x0), (1, 0, x1)]) (by decide) rfl dX12_parts_23 ?_
    exact hf_sub [3, 4, 2, 1, 0] rfl (j_X12_parts_25 x0 x1 (-1) 0 1)
  · refine hf_iconst (pc := 12) dX12_parts_12 ?_
    exact hf_Jret (pc := 13) dX12_parts_13 (fun _ => rfl)
/-! HighFallModel.weightsOf(II)I -/
def M_X12_weightsOf : hf_D := (yX12_weightsOf, cX12_weightsOf, 5, some .int, 0, 0)
def B_X12_weightsOf_5 (x0 x2 : Int) (rec_5 : Int × Int → hf_M Int) (x3 x4 : Int) : hf_M Int :=
  hf_cb x4 x2 (x2 < x4) (hf_ret x3) (hf_bd (hf_gf 12 7 x0) (fun v13 => hf_bd (hf_al 20 v13 x4) (fun v18 => hf_bd (hf_ret (x3 + v18)) (fun x3_20 => hf_bd (hf_ret (x4 + 1)) (fun x4_21 => rec_5 (x3_20, x4_21))))))
def f_X12_weightsOf_5 (x0 x2 x3 x4 : Int) : hf_M Int := hf_fx (fun rec s => B_X12_weightsOf_5 x0 x2 rec s.1 s.2) hf_N (x3, x4)
def f_X12_weightsOf (x0 x1 x2 : Int) : hf_M Int :=
  f_X12_weightsOf_5 x0 x2 0 x1
theorem cal_X12_weightsOf : hf_cv M_X12_weightsOf 12 2 := ⟨⟨ii_X12, kc_X12_weightsOf, by decide, by decide, by decide +kernel⟩, ki_X12_weightsOf, kv_X12_weightsOf, _, rfl, rfl⟩
set_option maxRecDepth 20000 in
theorem jb_X12_weightsOf_5 (x0 x2 : Int) (rec_5 : Int × Int → hf_M Int) (hrec_5 : ∀ s : Int × Int, hf_J M_X12_weightsOf 5 [(0, 2, x0), (2, 0, x2), (3, 0, s.1), (4, 0, s.2)] [] (rec_5 s)) (x3 x4 : Int) : hf_J M_X12_weightsOf 5 [(0, 2, x0), (2, 0, x2), (3, 0, x3), (4, 0, x4)] [] (B_X12_weightsOf_5 x0 x2 rec_5 x3 x4) := by
  refine hf_ild (pc := 5) 3 rfl dX12_weightsOf_5 ?_
  refine hf_ild_n (pc := 7) 1 rfl rfl dX12_weightsOf_7 ?_
  refine hf_icmp_gt (pc := 8) 27 dX12_weightsOf_8 rfl ?_ ?_
  · refine hf_ild_n (pc := 27) 2 rfl rfl dX12_weightsOf_27 ?_
    exact hf_Jret (pc := 28) dX12_weightsOf_28 (fun _ => rfl)
  · refine hf_ild_n (pc := 11) 2 rfl rfl dX12_weightsOf_11 ?_
    refine hf_ald_n (pc := 12) 0 rfl rfl dX12_weightsOf_12 ?_
    refine hf_getf (pc := 13) fl_X12_26 dX12_weightsOf_13 (fun v13 => ?_)
    refine hf_ild (pc := 16) 3 rfl dX12_weightsOf_16 ?_
    refine hf_iald (pc := 18) dX12_weightsOf_18 (fun v18 => ?_)
    refine hf_iadd (pc := 19) dX12_weightsOf_19 ?_
    refine hf_ist_nB (pc := 20) (fun y => [(3, 0, y), (0, 2, x0), (2, 0, x2), (4, 0, x4)]) rfl (by decide) (fun _ => rfl) dX12_weightsOf_20 (fun x3_20 => ?_)
    refine hf_iincB (pc := 21) (fun y => [(4, 0, y), (3, 0, x3_20), (0, 2, x0), (2, 0, x2)]) (q := 3) rfl (by decide) (fun _ => rfl) dX12_weightsOf_21 (fun x4_21 => ?_)
    refine hf_goto (pc := 24) 5 dX12_weightsOf_24 rfl ?_
    exact hf_sub [2, 3, 1, 0] rfl (hrec_5 (x3_20, x4_21))
set_option maxRecDepth 20000 in
theorem j_X12_weightsOf_5 (x0 x2 x3 x4 : Int) : hf_J M_X12_weightsOf 5 [(0, 2, x0), (2, 0, x2), (3, 0, x3), (4, 0, x4)] [] (f_X12_weightsOf_5 x0 x2 x3 x4) :=
  hf_Jfx (L := fun s => [(0, 2, x0), (2, 0, x2), (3, 0, s.1), (4, 0, s.2)]) (fun rec hrec s => jb_X12_weightsOf_5 x0 x2 rec hrec s.1 s.2) hf_N (x3, x4)
set_option maxRecDepth 20000 in
theorem c_X12_weightsOf (x0 x1 x2 : Int) : hf_Met M_X12_weightsOf [2, 0, 0] [x0, x1, x2] (f_X12_weightsOf x0 x1 x2) := by
  refine hf_met rfl (by decide) (by decide) (by decide) ?_
  show hf_J M_X12_weightsOf 0 [(0, 2, x0), (1, 0, x1), (2, 0, x2)] [] _
  refine hf_iconst (pc := 0) dX12_weightsOf_0 ?_
  refine hf_ist_n (pc := 1) (lv' := [(3, 0, 0), (0, 2, x0), (1, 0, x1), (2, 0, x2)]) rfl (by decide) rfl dX12_weightsOf_1 ?_
  refine hf_ild_n (pc := 2) 2 rfl rfl dX12_weightsOf_2 ?_
  refine hf_ist (pc := 3) (lv' := [(4, 0, x1), (3, 0, 0), (0, 2, x0), (1, 0, x1), (2, 0, x2)]) (by decide) rfl dX12_weightsOf_3 ?_
  exact hf_sub [2, 4, 1, 0] rfl (j_X12_weightsOf_5 x0 x2 0 x1)
/-! HighFallModel.begin(I)Z -/
def M_X12_begin : hf_D := (yX12_begin, cX12_begin, 6, some .boolean, 1, 24)
def B_X12_begin_56 (x0 x5 : Int) (rec_56 : Unit → hf_M Int) : hf_M Int :=
  hf_bd (hf_gf 12 64 x0) (fun v59 => hf_bd (hf_ob 12 x0 (f_X12_weightsOf x0 0 v59)) (fun v62 => hf_cb v62 x5 (x5 < v62) (hf_bd (hf_pf 12 63 x0 1) (fun _ => hf_bd (hf_pf 12 65 x0 0) (fun _ => hf_ret 1))) (hf_bd (hf_gf 12 64 x0) (fun v72 => hf_bd (hf_pf 12 64 x0 (v72 + 1)) (fun _ => rec_56 ())))))
def f_X12_begin_56 (x0 x5 : Int) : hf_M Int := hf_fx (fun rec s => B_X12_begin_56 x0 x5 rec) hf_N ()
def f_X12_begin (x0 x1 : Int) : hf_M Int :=
  hf_bd (hf_pf 12 2 x0 0) (fun _ => hf_bd (hf_gf 12 3 x0) (fun v8 => hf_bd (hf_ob 12 x0 (f_X12_weightsOf x0 0 v8)) (fun v11 => hf_cz x1 (x1 < 0) (hf_ret 0) (hf_cz v11 (¬ v11 = 0) (hf_ck (hf_inI x1) (hf_bd (hf_ret (hf_andl ((x1 * 1103515245) + 12345) 2147483647)) (fun x3_39 => hf_bd (hf_dvl x3_39 65536) (fun v44 => hf_ck (hf_inI v11) (hf_bd (hf_rml v44 v11) (fun v47 => hf_bd (hf_pf 12 64 x0 0) (fun _ => f_X12_begin_56 x0 v47))))))) (hf_ret 0)))))
theorem cal_X12_begin : hf_cv M_X12_begin 12 1 := ⟨⟨ii_X12, kc_X12_begin, by decide, by decide, by decide +kernel⟩, ki_X12_begin, kv_X12_begin, _, rfl, rfl⟩
set_option maxRecDepth 20000 in
theorem jb_X12_begin_56 (x0 x5 : Int) (rec_56 : Unit → hf_M Int) (hrec_56 : ∀ s : Unit, hf_J M_X12_begin 56 [(0, 2, x0), (5, 0, x5)] [] (rec_56 s)) : hf_J M_X12_begin 56 [(0, 2, x0), (5, 0, x5)] [] (B_X12_begin_56 x0 x5 rec_56) := by
  refine hf_ald_n (pc := 56) 0 rfl rfl dX12_begin_56 ?_
  refine hf_iconst (pc := 57) dX12_begin_57 ?_
  refine hf_ald_n (pc := 58) 0 rfl rfl dX12_begin_58 ?_
  refine hf_getf (pc := 59) fl_X12_419 dX12_begin_59 (fun v59 => ?_)
  refine hf_cV (pc := 62) (N := M_X12_weightsOf) (ts := [0, 0]) (vs := [0, v59]) (st := []) (fun r => [(0, r)]) (c_X12_weightsOf x0 0 v59) cal_X12_weightsOf ml_X12_408 ⟨hf_le rfl, hf_le rfl⟩ (hf_le rfl) ⟨rfl, rfl⟩ rfl dX12_begin_62 (fun _ => rfl) (fun v62 => ?_)
  refine hf_ild (pc := 65) 1 rfl dX12_begin_65 ?_
  refine hf_icmp_gt (pc := 67) 83 dX12_begin_67 rfl ?_ ?_
  · refine hf_ald_n (pc := 83) 0 rfl rfl dX12_begin_83 ?_
    refine hf_iconst (pc := 84) dX12_begin_84 ?_
    refine hf_putf (pc := 85) fl_X12_140 (Or.inr rfl) dX12_begin_85 ?_
    refine hf_ald_n (pc := 88) 0 rfl rfl dX12_begin_88 ?_
    refine hf_iconst (pc := 89) dX12_begin_89 ?_
    refine hf_putf (pc := 90) fl_X12_422 trivial dX12_begin_90 ?_
    refine hf_iconst (pc := 93) dX12_begin_93 ?_
    exact hf_Jret (pc := 94) (r := 1) ⟨dX12_begin_94, Or.inr rfl⟩ (fun _ => rfl)
  · refine hf_ald_n (pc := 70) 0 rfl rfl dX12_begin_70 ?_
    refine hf_dup (pc := 71) (by decide) dX12_begin_71 ?_
    refine hf_getf (pc := 72) fl_X12_419 dX12_begin_72 (fun v72 => ?_)
    refine hf_iconst (pc := 75) dX12_begin_75 ?_
    refine hf_iadd (pc := 76) dX12_begin_76 ?_
    refine hf_putf (pc := 77) fl_X12_419 trivial dX12_begin_77 ?_
    refine hf_goto (pc := 80) 56 dX12_begin_80 rfl ?_
    exact hf_sub [0, 1] rfl (hrec_56 ())
set_option maxRecDepth 20000 in
theorem j_X12_begin_56 (x0 x5 : Int) : hf_J M_X12_begin 56 [(0, 2, x0), (5, 0, x5)] [] (f_X12_begin_56 x0 x5) :=
  hf_Jfx (L := fun s => [(0, 2, x0), (5, 0, x5)]) (fun rec hrec s => jb_X12_begin_56 x0 x5 rec hrec) hf_N ()
set_option maxRecDepth 20000 in
theorem c_X12_begin (x0 x1 : Int) : hf_Met M_X12_begin [2, 0] [x0, x1] (f_X12_begin x0 x1) := by
  refine hf_met rfl (by decide) (by decide) (by decide) ?_
  show hf_J M_X12_begin 0 [(0, 2, x0), (1, 0, x1)] [] _
  refine hf_ald_n (pc := 0) 0 rfl rfl dX12_begin_0 ?_
  refine hf_iconst (pc := 1) dX12_begin_1 ?_
  refine hf_putf (pc := 2) fl_X12_127 trivial dX12_begin_2 ?_
  refine hf_ald_n (pc := 5) 0 rfl rfl dX12_begin_5 ?_
  refine hf_iconst (pc := 6) dX12_begin_6 ?_
  refine hf_ald_n (pc := 7) 0 rfl rfl dX12_begin_7 ?_
  refine hf_getf (pc := 8) fl_X12_13 dX12_begin_8 (fun v8 => ?_)
  refine hf_cV (pc := 11) (N := M_X12_weightsOf) (ts := [0, 0]) (vs := [0, v8]) (st := []) (fun r => [(0, r)]) (c_X12_weightsOf x0 0 v8) cal_X12_weightsOf ml_X12_408 ⟨hf_le rfl, hf_le rfl⟩ (hf_le rfl) ⟨rfl, rfl⟩ rfl dX12_begin_11 (fun _ => rfl) (fun v11 => ?_)
  refine hf_ist_n (pc := 14) (lv' := [(2, 0, v11), (0, 2, x0), (1, 0, x1)]) rfl (by decide) rfl dX12_begin_14 ?_
  refine hf_ild_n (pc := 15) 2 rfl rfl dX12_begin_15 ?_
  refine hf_if_lt (pc := 16) 23 dX12_begin_16 rfl ?_ ?_
  · refine hf_iconst (pc := 23) dX12_begin_23 ?_
    exact hf_Jret (pc := 24) (r := 0) ⟨dX12_begin_24, Or.inl rfl⟩ (fun _ => rfl)
  · refine hf_ild_n (pc := 19) 0 rfl rfl dX12_begin_19 ?_
    refine hf_if_ne (pc := 20) 25 dX12_begin_20 rfl ?_ ?_
    · refine hf_ild_n (pc := 25) 2 rfl rfl dX12_begin_25 ?_
      refine hf_i2l (pc := 26) dX12_begin_26 ?_
      refine hf_ldc2 (pc := 27) (n := 1103515245) co_X12_411 (by decide) dX12_begin_27 ?_
      refine hf_lmul (pc := 30) dX12_begin_30 ?_
      refine hf_ldc2 (pc := 31) (n := 12345) co_X12_413 (by decide) dX12_begin_31 ?_
      refine hf_ladd (pc := 34) dX12_begin_34 ?_
      refine hf_ldc2 (pc := 35) (n := 2147483647) co_X12_415 (by decide) dX12_begin_35 ?_
      refine hf_land (pc := 38) dX12_begin_38 ?_
      refine hf_lst_nB (pc := 39) (fun y => [(3, 1, y), (2, 0, v11), (0, 2, x0), (1, 0, x1)]) rfl (by decide) (fun _ => rfl) dX12_begin_39 (fun x3_39 => ?_)
      refine hf_lld_n (pc := 40) 0 rfl rfl dX12_begin_40 ?_
      refine hf_ldc2 (pc := 41) (n := 65536) co_X12_417 (by decide) dX12_begin_41 ?_
      refine hf_ldiv (pc := 44) dX12_begin_44 (fun v44 => ?_)
      refine hf_ild_n (pc := 45) 1 rfl rfl dX12_begin_45 ?_
      refine hf_i2l (pc := 46) dX12_begin_46 ?_
      refine hf_lrem (pc := 47) dX12_begin_47 (fun v47 => ?_)
      refine hf_l2i (pc := 48) dX12_begin_48 ?_
      refine hf_ist (pc := 49) (lv' := [(5, 0, v47), (3, 1, x3_39), (2, 0, v11), (0, 2, x0), (1, 0, x1)]) (by decide) rfl dX12_begin_49 ?_
      refine hf_ald_n (pc := 51) 3 rfl rfl dX12_begin_51 ?_
      refine hf_iconst (pc := 52) dX12_begin_52 ?_
      refine hf_putf (pc := 53) fl_X12_419 trivial dX12_begin_53 ?_
      exact hf_sub [3, 0] rfl (j_X12_begin_56 x0 v47)
    · refine hf_iconst (pc := 23) dX12_begin_23 ?_
      exact hf_Jret (pc := 24) (r := 0) ⟨dX12_begin_24, Or.inl rfl⟩ (fun _ => rfl)
/-! HighFallModel.leftNow(I)I -/
def M_X12_leftNow : hf_D := (yX12_leftNow, cX12_leftNow, 4, some .int, 1, 24)
def f_X12_leftNow_52 (rec_9 : Int × Int → hf_M Int) (x0 x1 x3 s0 s1 : Int) : hf_M Int :=
  hf_bd (hf_ret (s0 - s1)) (fun x2_53 => hf_bd (hf_ret (x3 + 1)) (fun x3_54 => rec_9 (x2_53, x3_54)))
def B_X12_leftNow_9 (x0 x1 : Int) (rec_9 : Int × Int → hf_M Int) (x2 x3 : Int) : hf_M Int :=
  hf_bd (hf_gf 12 65 x0) (fun v11 => hf_cb x3 v11 (v11 ≤ x3) (hf_ret x2) (hf_bd (hf_gf 12 66 x0) (fun v19 => hf_bd (hf_al 20 v19 x3) (fun v23 => hf_cb v23 x1 (¬ v23 = x1) (f_X12_leftNow_52 rec_9 x0 x1 x3 x2 0) (hf_bd (hf_gf 12 64 x0) (fun v30 => hf_bd (hf_gf 12 67 x0) (fun v35 => hf_bd (hf_al 20 v35 x3) (fun v39 => hf_ck (hf_inI v39) (hf_bd (hf_ob 12 x0 (f_X12_breaks x0 v30 x1 v39)) (fun v41 => hf_cz v41 (v41 = 0) (f_X12_leftNow_52 rec_9 x0 x1 x3 x2 0) (f_X12_leftNow_52 rec_9 x0 x1 x3 x2 1)))))))))))
def f_X12_leftNow_9 (x0 x1 x2 x3 : Int) : hf_M Int := hf_fx (fun rec s => B_X12_leftNow_9 x0 x1 rec s.1 s.2) hf_N (x2, x3)
def f_X12_leftNow (x0 x1 : Int) : hf_M Int :=
  hf_bd (hf_gf 12 5 x0) (fun v1 => hf_bd (hf_al 20 v1 x1) (fun v5 => f_X12_leftNow_9 x0 x1 v5 0))
theorem cal_X12_leftNow : hf_cv M_X12_leftNow 12 1 := ⟨⟨ii_X12, kc_X12_leftNow, by decide, by decide, by decide +kernel⟩, ki_X12_leftNow, kv_X12_leftNow, _, rfl, rfl⟩
set_option maxRecDepth 20000 in
theorem j_X12_leftNow_52 (x0 x1 x3 s0 s1 : Int) (rec_9 : Int × Int → hf_M Int) (hrec_9 : ∀ s : Int × Int, hf_J M_X12_leftNow 9 [(0, 2, x0), (1, 0, x1), (2, 0, s.1), (3, 0, s.2)] [] (rec_9 s)) : hf_J M_X12_leftNow 52 [(0, 2, x0), (1, 0, x1), (3, 0, x3)] [(0, s1), (0, s0)] (f_X12_leftNow_52 rec_9 x0 x1 x3 s0 s1) := by
  refine hf_isub (pc := 52) dX12_leftNow_52 ?_
  refine hf_ist_nB (pc := 53) (fun y => [(2, 0, y), (0, 2, x0), (1, 0, x1), (3, 0, x3)]) rfl (by decide) (fun _ => rfl) dX12_leftNow_53 (fun x2_53 => ?_)
  refine hf_iincB (pc := 54) (fun y => [(3, 0, y), (2, 0, x2_53), (0, 2, x0), (1, 0, x1)]) (q := 3) rfl (by decide) (fun _ => rfl) dX12_leftNow_54 (fun x3_54 => ?_)
  refine hf_goto (pc := 57) 9 dX12_leftNow_57 rfl ?_
  exact hf_sub [2, 3, 1, 0] rfl (hrec_9 (x2_53, x3_54))
set_option maxRecDepth 20000 in
theorem jb_X12_leftNow_9 (x0 x1 : Int) (rec_9 : Int × Int → hf_M Int) (hrec_9 : ∀ s : Int × Int, hf_J M_X12_leftNow 9 [(0, 2, x0), (1, 0, x1), (2, 0, s.1), (3, 0, s.2)] [] (rec_9 s)) (x2 x3 : Int) : hf_J M_X12_leftNow 9 [(0, 2, x0), (1, 0, x1), (2, 0, x2), (3, 0, x3)] [] (B_X12_leftNow_9 x0 x1 rec_9 x2 x3) := by
  refine hf_ild_n (pc := 9) 3 rfl rfl dX12_leftNow_9 ?_
  refine hf_ald_n (pc := 10) 0 rfl rfl dX12_leftNow_10 ?_
  refine hf_getf (pc := 11) fl_X12_422 dX12_leftNow_11 (fun v11 => ?_)
  refine hf_icmp_ge (pc := 14) 60 dX12_leftNow_14 rfl ?_ ?_
  · refine hf_ild_n (pc := 60) 2 rfl rfl dX12_leftNow_60 ?_
    exact hf_Jret (pc := 61) dX12_leftNow_61 (fun _ => rfl)
  · refine hf_ild_n (pc := 17) 2 rfl rfl dX12_leftNow_17 ?_
    refine hf_ald_n (pc := 18) 0 rfl rfl dX12_leftNow_18 ?_
    refine hf_getf (pc := 19) fl_X12_118 dX12_leftNow_19 (fun v19 => ?_)
    refine hf_ild_n (pc := 22) 3 rfl rfl dX12_leftNow_22 ?_
    refine hf_iald (pc := 23) dX12_leftNow_23 (fun v23 => ?_)
    refine hf_ild_n (pc := 24) 1 rfl rfl dX12_leftNow_24 ?_
    refine hf_icmp_ne (pc := 25) 51 dX12_leftNow_25 rfl ?_ ?_
    · refine hf_iconst (pc := 51) dX12_leftNow_51 ?_
      exact hf_sub [0, 1, 3] rfl (j_X12_leftNow_52 x0 x1 x3 x2 0 rec_9 hrec_9)
    · refine hf_ald_n (pc := 28) 0 rfl rfl dX12_leftNow_28 ?_
      refine hf_ald_n (pc := 29) 0 rfl rfl dX12_leftNow_29 ?_
      refine hf_getf (pc := 30) fl_X12_419 dX12_leftNow_30 (fun v30 => ?_)
      refine hf_ild_n (pc := 33) 1 rfl rfl dX12_leftNow_33 ?_
      refine hf_ald_n (pc := 34) 0 rfl rfl dX12_leftNow_34 ?_
      refine hf_getf (pc := 35) fl_X12_121 dX12_leftNow_35 (fun v35 => ?_)
      refine hf_ild_n (pc := 38) 3 rfl rfl dX12_leftNow_38 ?_
      refine hf_iald (pc := 39) dX12_leftNow_39 (fun v39 => ?_)
      refine hf_i2l (pc := 40) dX12_leftNow_40 ?_
      refine hf_cV (pc := 41) (N := M_X12_breaks) (ts := [0, 0, 1]) (vs := [v30, x1, v39]) (st := [(0, x2)]) (fun r => [(0, r), (0, x2)]) (c_X12_breaks x0 v30 x1 v39) cal_X12_breaks ml_X12_326 ⟨hf_le rfl, hf_le rfl⟩ (hf_le rfl) ⟨rfl, rfl⟩ rfl dX12_leftNow_41 (fun _ => rfl) (fun v41 => ?_)
      refine hf_if_eq (pc := 44) 51 dX12_leftNow_44 rfl ?_ ?_
      · refine hf_iconst (pc := 51) dX12_leftNow_51 ?_
        exact hf_sub [0, 1, 3] rfl (j_X12_leftNow_52 x0 x1 x3 x2 0 rec_9 hrec_9)
      · refine hf_iconst (pc := 47) dX12_leftNow_47 ?_
        refine hf_goto (pc := 48) 52 dX12_leftNow_48 rfl ?_
        exact hf_sub [0, 1, 3] rfl (j_X12_leftNow_52 x0 x1 x3 x2 1 rec_9 hrec_9)
set_option maxRecDepth 20000 in
theorem j_X12_leftNow_9 (x0 x1 x2 x3 : Int) : hf_J M_X12_leftNow 9 [(0, 2, x0), (1, 0, x1), (2, 0, x2), (3, 0, x3)] [] (f_X12_leftNow_9 x0 x1 x2 x3) :=
  hf_Jfx (L := fun s => [(0, 2, x0), (1, 0, x1), (2, 0, s.1), (3, 0, s.2)]) (fun rec hrec s => jb_X12_leftNow_9 x0 x1 rec hrec s.1 s.2) hf_N (x2, x3)
set_option maxRecDepth 20000 in
theorem c_X12_leftNow (x0 x1 : Int) : hf_Met M_X12_leftNow [2, 0] [x0, x1] (f_X12_leftNow x0 x1) := by
  refine hf_met rfl (by decide) (by decide) (by decide) ?_
  show hf_J M_X12_leftNow 0 [(0, 2, x0), (1, 0, x1)] [] _
  refine hf_ald_n (pc := 0) 0 rfl rfl dX12_leftNow_0 ?_
  refine hf_getf (pc := 1) fl_X12_20 dX12_leftNow_1 (fun v1 => ?_)
  refine hf_ild_n (pc := 4) 1 rfl rfl dX12_leftNow_4 ?_
  refine hf_iald (pc := 5) dX12_leftNow_5 (fun v5 => ?_)
  refine hf_ist_n (pc := 6) (lv' := [(2, 0, v5), (0, 2, x0), (1, 0, x1)]) rfl (by decide) rfl dX12_leftNow_6 ?_
  refine hf_iconst (pc := 7) dX12_leftNow_7 ?_
  refine hf_ist_n (pc := 8) (lv' := [(3, 0, 0), (2, 0, v5), (0, 2, x0), (1, 0, x1)]) rfl (by decide) rfl dX12_leftNow_8 ?_
  exact hf_sub [2, 3, 1, 0] rfl (j_X12_leftNow_9 x0 x1 v5 0)
/-! HighFallModel.drop(II)I -/
def M_X12_drop : hf_D := (yX12_drop, cX12_drop, 4, some .int, 2, 47)
def f_X12_drop_105 (x0 x3 s0 s1 s2 s3 : Int) : hf_M Int :=
  hf_bd (hf_as 20 s0 s1 (s2 + s3)) (fun _ => hf_bd (hf_gf 12 65 x0) (fun v109 => hf_bd (hf_pf 12 65 x0 (v109 + 1)) (fun _ => hf_ck (hf_inI x3) (hf_bd (hf_ret (if x3 = 0 then 1 else 2)) (fun w126 => hf_ret w126)))))
def f_X12_drop (x0 x1 x2 : Int) : hf_M Int :=
  hf_bd (hf_pf 12 2 x0 0) (fun _ => hf_bd (hf_gf 12 63 x0) (fun v6 => hf_cz v6 (v6 = 0) (hf_ret (-1)) (hf_bd (hf_gf 12 65 x0) (fun v13 => hf_cb v13 100 (v13 = 100) (hf_ret (-1)) (hf_bd (f_X12_isKind x1) (fun v22 => hf_cz v22 (v22 = 0) (hf_ret (-1)) (hf_bd (hf_ob 12 x0 (f_X12_isStep x0 x2)) (fun v30 => hf_cz v30 (v30 = 0) (hf_ret (-1)) (hf_bd (hf_ob 12 x0 (f_X12_leftNow x0 x1)) (fun v38 => hf_cz v38 (¬ v38 = 0) (hf_bd (hf_gf 12 64 x0) (fun v48 => hf_ck (hf_inI x2) (hf_bd (hf_ob 12 x0 (f_X12_breaks x0 v48 x1 x2)) (fun v54 => hf_bd (hf_gf 12 66 x0) (fun v59 => hf_bd (hf_gf 12 65 x0) (fun v63 => hf_bd (hf_as 20 v59 v63 x1) (fun _ => hf_bd (hf_gf 12 67 x0) (fun v69 => hf_bd (hf_gf 12 65 x0) (fun v73 => hf_bd (hf_as 20 v69 v73 x2) (fun _ => hf_bd (hf_gf 12 68 x0) (fun v79 => hf_bd (hf_gf 12 65 x0) (fun v83 => hf_bd (hf_ob 12 x0 (f_X12_costOf x0 x2)) (fun v88 => hf_cz v54 (v54 = 0) (f_X12_drop_105 x0 v54 v79 v83 v88 0) (hf_bd (hf_gf 12 6 x0) (fun v96 => hf_bd (hf_al 20 v96 x1) (fun v100 => f_X12_drop_105 x0 v54 v79 v83 v88 v100)))))))))))))))) (hf_ret (-1))))))))))))
theorem cal_X12_drop : hf_cv M_X12_drop 12 2 := ⟨⟨ii_X12, kc_X12_drop, by decide, by decide, by decide +kernel⟩, ki_X12_drop, kv_X12_drop, _, rfl, rfl⟩
set_option maxRecDepth 20000 in
theorem j_X12_drop_105 (x0 x3 s0 s1 s2 s3 : Int) : hf_J M_X12_drop 105 [(0, 2, x0), (3, 0, x3)] [(0, s3), (0, s2), (0, s1), (2, s0)] (f_X12_drop_105 x0 x3 s0 s1 s2 s3) := by
  refine hf_iadd (pc := 105) dX12_drop_105 ?_
  refine hf_iast (pc := 106) dX12_drop_106 ?_
  refine hf_ald_n (pc := 107) 0 rfl rfl dX12_drop_107 ?_
  refine hf_dup (pc := 108) (by decide) dX12_drop_108 ?_
  refine hf_getf (pc := 109) fl_X12_422 dX12_drop_109 (fun v109 => ?_)
  refine hf_iconst (pc := 112) dX12_drop_112 ?_
  refine hf_iadd (pc := 113) dX12_drop_113 ?_
  refine hf_putf (pc := 114) fl_X12_422 trivial dX12_drop_114 ?_
  refine hf_ild_n (pc := 117) 1 rfl rfl dX12_drop_117 ?_
  refine hf_Jdiz (pc := 118) (pcM := 126) (t := 0) (stM := []) (fun w126 => ?_) (fun a1 a2 => ?_)
  · exact hf_Jret (pc := 126) dX12_drop_126 (fun _ => rfl)
  · refine hf_if_eq (pc := 118) 125 dX12_drop_118 rfl ?_ ?_
    · refine hf_iconst (pc := 125) dX12_drop_125 ?_
      exact a1
    · refine hf_iconst (pc := 121) dX12_drop_121 ?_
      refine hf_goto (pc := 122) 126 dX12_drop_122 rfl ?_
      exact a2
set_option maxRecDepth 20000 in
theorem c_X12_drop (x0 x1 x2 : Int) : hf_Met M_X12_drop [2, 0, 0] [x0, x1, x2] (f_X12_drop x0 x1 x2) := by
  refine hf_met rfl (by decide) (by decide) (by decide) ?_
  show hf_J M_X12_drop 0 [(0, 2, x0), (1, 0, x1), (2, 0, x2)] [] _
  refine hf_ald_n (pc := 0) 0 rfl rfl dX12_drop_0 ?_
  refine hf_iconst (pc := 1) dX12_drop_1 ?_
  refine hf_putf (pc := 2) fl_X12_127 trivial dX12_drop_2 ?_
  refine hf_ald_n (pc := 5) 0 rfl rfl dX12_drop_5 ?_
  refine hf_getf (pc := 6) fl_X12_140 dX12_drop_6 (fun v6 => ?_)
  refine hf_if_eq (pc := 9) 44 dX12_drop_9 rfl ?_ ?_
  · refine hf_iconst (pc := 44) dX12_drop_44 ?_
    exact hf_Jret (pc := 45) dX12_drop_45 (fun _ => rfl)
  · refine hf_ald_n (pc := 12) 0 rfl rfl dX12_drop_12 ?_
    refine hf_getf (pc := 13) fl_X12_422 dX12_drop_13 (fun v13 => ?_)
    refine hf_bipush (pc := 16) dX12_drop_16 (by decide) ?_
    refine hf_icmp_eq (pc := 18) 44 dX12_drop_18 rfl ?_ ?_
    · refine hf_iconst (pc := 44) dX12_drop_44 ?_
      exact hf_Jret (pc := 45) dX12_drop_45 (fun _ => rfl)
    · refine hf_ild_n (pc := 21) 1 rfl rfl dX12_drop_21 ?_
      refine hf_cS (pc := 22) (N := M_X12_isKind) (ts := [0]) (vs := [x1]) (st := []) (fun r => [(0, r)]) (c_X12_isKind x1) cal_X12_isKind ml_X12_144 ⟨hf_le rfl, hf_le rfl⟩ (hf_le rfl) ⟨rfl, rfl⟩ rfl dX12_drop_22 (fun _ => rfl) (fun v22 => ?_)
      refine hf_if_eq (pc := 25) 44 dX12_drop_25 rfl ?_ ?_
      · refine hf_iconst (pc := 44) dX12_drop_44 ?_
        exact hf_Jret (pc := 45) dX12_drop_45 (fun _ => rfl)
      · refine hf_ald_n (pc := 28) 0 rfl rfl dX12_drop_28 ?_
        refine hf_ild_n (pc := 29) 2 rfl rfl dX12_drop_29 ?_
        refine hf_cV (pc := 30) (N := M_X12_isStep) (ts := [0]) (vs := [x2]) (st := []) (fun r => [(0, r)]) (c_X12_isStep x0 x2) cal_X12_isStep ml_X12_393 ⟨hf_le rfl, hf_le rfl⟩ (hf_le rfl) ⟨rfl, rfl⟩ rfl dX12_drop_30 (fun _ => rfl) (fun v30 => ?_)
        refine hf_if_eq (pc := 33) 44 dX12_drop_33 rfl ?_ ?_
        · refine hf_iconst (pc := 44) dX12_drop_44 ?_
          exact hf_Jret (pc := 45) dX12_drop_45 (fun _ => rfl)
        · refine hf_ald_n (pc := 36) 0 rfl rfl dX12_drop_36 ?_
          refine hf_ild_n (pc := 37) 1 rfl rfl dX12_drop_37 ?_
          refine hf_cV (pc := 38) (N := M_X12_leftNow) (ts := [0]) (vs := [x1]) (st := []) (fun r => [(0, r)]) (c_X12_leftNow x0 x1) cal_X12_leftNow ml_X12_425 ⟨hf_le rfl, hf_le rfl⟩ (hf_le rfl) ⟨rfl, rfl⟩ rfl dX12_drop_38 (fun _ => rfl) (fun v38 => ?_)
          refine hf_if_ne (pc := 41) 46 dX12_drop_41 rfl ?_ ?_
          · refine hf_ald_n (pc := 46) 0 rfl rfl dX12_drop_46 ?_
            refine hf_ald_n (pc := 47) 0 rfl rfl dX12_drop_47 ?_
            refine hf_getf (pc := 48) fl_X12_419 dX12_drop_48 (fun v48 => ?_)
            refine hf_ild_n (pc := 51) 1 rfl rfl dX12_drop_51 ?_
            refine hf_ild_n (pc := 52) 2 rfl rfl dX12_drop_52 ?_
            refine hf_i2l (pc := 53) dX12_drop_53 ?_
            refine hf_cV (pc := 54) (N := M_X12_breaks) (ts := [0, 0, 1]) (vs := [v48, x1, x2]) (st := []) (fun r => [(0, r)]) (c_X12_breaks x0 v48 x1 x2) cal_X12_breaks ml_X12_326 ⟨hf_le rfl, hf_le rfl⟩ (hf_le rfl) ⟨rfl, rfl⟩ rfl dX12_drop_54 (fun _ => rfl) (fun v54 => ?_)
            refine hf_ist_n (pc := 57) (lv' := [(3, 0, v54), (0, 2, x0), (1, 0, x1), (2, 0, x2)]) rfl (by decide) rfl dX12_drop_57 ?_
            refine hf_ald_n (pc := 58) 1 rfl rfl dX12_drop_58 ?_
            refine hf_getf (pc := 59) fl_X12_118 dX12_drop_59 (fun v59 => ?_)
            refine hf_ald_n (pc := 62) 1 rfl rfl dX12_drop_62 ?_
            refine hf_getf (pc := 63) fl_X12_422 dX12_drop_63 (fun v63 => ?_)
            refine hf_ild_n (pc := 66) 2 rfl rfl dX12_drop_66 ?_
            refine hf_iast (pc := 67) dX12_drop_67 ?_
            refine hf_ald_n (pc := 68) 1 rfl rfl dX12_drop_68 ?_
            refine hf_getf (pc := 69) fl_X12_121 dX12_drop_69 (fun v69 => ?_)
            refine hf_ald_n (pc := 72) 1 rfl rfl dX12_drop_72 ?_
            refine hf_getf (pc := 73) fl_X12_422 dX12_drop_73 (fun v73 => ?_)
            refine hf_ild_n (pc := 76) 3 rfl rfl dX12_drop_76 ?_
            refine hf_iast (pc := 77) dX12_drop_77 ?_
            refine hf_ald_n (pc := 78) 1 rfl rfl dX12_drop_78 ?_
            refine hf_getf (pc := 79) fl_X12_124 dX12_drop_79 (fun v79 => ?_)
            refine hf_ald_n (pc := 82) 1 rfl rfl dX12_drop_82 ?_
            refine hf_getf (pc := 83) fl_X12_422 dX12_drop_83 (fun v83 => ?_)
            refine hf_ald_n (pc := 86) 1 rfl rfl dX12_drop_86 ?_
            refine hf_ild_n (pc := 87) 3 rfl rfl dX12_drop_87 ?_
            refine hf_cV (pc := 88) (N := M_X12_costOf) (ts := [0]) (vs := [x2]) (st := [(0, v83), (2, v79)]) (fun r => [(0, r), (0, v83), (2, v79)]) (c_X12_costOf x0 x2) cal_X12_costOf ml_X12_342 ⟨hf_le rfl, hf_le rfl⟩ (hf_le rfl) ⟨rfl, rfl⟩ rfl dX12_drop_88 (fun _ => rfl) (fun v88 => ?_)
            refine hf_ild_n (pc := 91) 0 rfl rfl dX12_drop_91 ?_
            refine hf_if_eq (pc := 92) 104 dX12_drop_92 rfl ?_ ?_
            · refine hf_iconst (pc := 104) dX12_drop_104 ?_
              exact hf_sub [1, 0] rfl (j_X12_drop_105 x0 v54 v79 v83 v88 0)
            · refine hf_ald_n (pc := 95) 1 rfl rfl dX12_drop_95 ?_
              refine hf_getf (pc := 96) fl_X12_23 dX12_drop_96 (fun v96 => ?_)
              refine hf_ild_n (pc := 99) 2 rfl rfl dX12_drop_99 ?_
              refine hf_iald (pc := 100) dX12_drop_100 (fun v100 => ?_)
              refine hf_goto (pc := 101) 105 dX12_drop_101 rfl ?_
              exact hf_sub [1, 0] rfl (j_X12_drop_105 x0 v54 v79 v83 v88 v100)
          · refine hf_iconst (pc := 44) dX12_drop_44 ?_
            exact hf_Jret (pc := 45) dX12_drop_45 (fun _ => rfl)
/-! HighFallModel.back()I -/
def M_X12_back : hf_D := (yX12_back, cX12_back, 1, some .int, 0, 0)
def f_X12_back (x0 : Int) : hf_M Int :=
  hf_bd (hf_pf 12 2 x0 0) (fun _ => hf_bd (hf_gf 12 63 x0) (fun v6 => hf_cz v6 (v6 = 0) (hf_ret (-1)) (hf_bd (hf_gf 12 65 x0) (fun v13 => hf_cz v13 (¬ v13 = 0) (hf_bd (hf_gf 12 65 x0) (fun v23 => hf_bd (hf_pf 12 65 x0 (v23 - 1)) (fun _ => hf_bd (hf_gf 12 65 x0) (fun v32 => hf_ret v32)))) (hf_ret (-1))))))
theorem cal_X12_back : hf_cv M_X12_back 12 0 := ⟨⟨ii_X12, kc_X12_back, by decide, by decide, by decide +kernel⟩, ki_X12_back, kv_X12_back, _, rfl, rfl⟩
set_option maxRecDepth 20000 in
theorem c_X12_back (x0 : Int) : hf_Met M_X12_back [2] [x0] (f_X12_back x0) := by
  refine hf_met rfl (by decide) (by decide) (by decide) ?_
  show hf_J M_X12_back 0 [(0, 2, x0)] [] _
  refine hf_ald_n (pc := 0) 0 rfl rfl dX12_back_0 ?_
  refine hf_iconst (pc := 1) dX12_back_1 ?_
  refine hf_putf (pc := 2) fl_X12_127 trivial dX12_back_2 ?_
  refine hf_ald_n (pc := 5) 0 rfl rfl dX12_back_5 ?_
  refine hf_getf (pc := 6) fl_X12_140 dX12_back_6 (fun v6 => ?_)
  refine hf_if_eq (pc := 9) 19 dX12_back_9 rfl ?_ ?_
  · refine hf_iconst (pc := 19) dX12_back_19 ?_
    exact hf_Jret (pc := 20) dX12_back_20 (fun _ => rfl)
  · refine hf_ald_n (pc := 12) 0 rfl rfl dX12_back_12 ?_
    refine hf_getf (pc := 13) fl_X12_422 dX12_back_13 (fun v13 => ?_)
    refine hf_if_ne (pc := 16) 21 dX12_back_16 rfl ?_ ?_
    · refine hf_ald_n (pc := 21) 0 rfl rfl dX12_back_21 ?_
      refine hf_dup (pc := 22) (by decide) dX12_back_22 ?_
      refine hf_getf (pc := 23) fl_X12_422 dX12_back_23 (fun v23 => ?_)
      refine hf_iconst (pc := 26) dX12_back_26 ?_
      refine hf_isub (pc := 27) dX12_back_27 ?_
      refine hf_putf (pc := 28) fl_X12_422 trivial dX12_back_28 ?_
      refine hf_ald_n (pc := 31) 0 rfl rfl dX12_back_31 ?_
      refine hf_getf (pc := 32) fl_X12_422 dX12_back_32 (fun v32 => ?_)
      exact hf_Jret (pc := 35) dX12_back_35 (fun _ => rfl)
    · refine hf_iconst (pc := 19) dX12_back_19 ?_
      exact hf_Jret (pc := 20) dX12_back_20 (fun _ => rfl)
/-! HighFallModel.bound(Z)I -/
def M_X12_bound : hf_D := (yX12_bound, cX12_bound, 6, some .int, 1, 24)
def f_X12_bound_114 (rec_15 : Int × Int → hf_M Int) (x0 x1 x2 x3 : Int) : hf_M Int :=
  hf_bd (hf_ret (x3 + 1)) (fun x3_114 => rec_15 (x2, x3_114))
def f_X12_bound_92 (rec_15 : Int × Int → hf_M Int) (x0 x1 x2 x3 x4 x5 : Int) : hf_M Int :=
  hf_cz x1 (¬ x1 = 0) (f_X12_bound_114 rec_15 x0 x1 x2 x3) (hf_cz x5 (¬ x5 = 0) (f_X12_bound_114 rec_15 x0 x1 x2 x3) (hf_ck (hf_inI x4 ∧ hf_inI x2) (hf_bd (hf_ret (if x4 ≤ x2 then x2 else x4)) (fun w113 => f_X12_bound_114 rec_15 x0 x1 w113 x3))))
def B_X12_bound_15 (x0 x1 : Int) (rec_15 : Int × Int → hf_M Int) (x2 x3 : Int) : hf_M Int :=
  hf_bd (hf_gf 12 65 x0) (fun v17 => hf_cb x3 v17 (v17 ≤ x3) (hf_ret x2) (hf_bd (hf_gf 12 67 x0) (fun v24 => hf_bd (hf_al 20 v24 x3) (fun v28 => hf_bd (hf_gf 12 4 x0) (fun v30 => hf_bd (hf_gf 12 66 x0) (fun v34 => hf_bd (hf_al 20 v34 x3) (fun v38 => hf_bd (hf_al 20 v30 v38) (fun v39 => hf_bd (hf_ret (v28 - v39)) (fun x4_41 => hf_bd (hf_gf 12 64 x0) (fun v45 => hf_bd (hf_gf 12 66 x0) (fun v49 => hf_bd (hf_al 20 v49 x3) (fun v53 => hf_bd (hf_gf 12 67 x0) (fun v55 => hf_bd (hf_al 20 v55 x3) (fun v59 => hf_ck (hf_inI v59) (hf_bd (hf_ob 12 x0 (f_X12_breaks x0 v45 v53 v59)) (fun v61 => hf_cz x1 (x1 = 0) (f_X12_bound_92 rec_15 x0 x1 x2 x3 x4_41 v61) (hf_cz v61 (v61 = 0) (f_X12_bound_92 rec_15 x0 x1 x2 x3 x4_41 v61) (hf_ck (hf_inI (x4_41 - 1) ∧ hf_inI x2) (hf_bd (hf_ret (if x2 ≤ (x4_41 - 1) then x2 else (x4_41 - 1))) (fun w91 => f_X12_bound_92 rec_15 x0 x1 w91 x3 x4_41 v61))))))))))))))))))))
def f_X12_bound_15 (x0 x1 x2 x3 : Int) : hf_M Int := hf_fx (fun rec s => B_X12_bound_15 x0 x1 rec s.1 s.2) hf_N (x2, x3)
def f_X12_bound_12 (x0 x1 s0 : Int) : hf_M Int :=
  f_X12_bound_15 x0 x1 s0 0
def f_X12_bound (x0 x1 : Int) : hf_M Int :=
  hf_cz x1 (x1 = 0) (f_X12_bound_12 x0 x1 0) (hf_bd (hf_gf 12 3 x0) (fun v5 => f_X12_bound_12 x0 x1 v5))
theorem cal_X12_bound : hf_cv M_X12_bound 12 1 := ⟨⟨ii_X12, kc_X12_bound, by decide, by decide, by decide +kernel⟩, ki_X12_bound, kv_X12_bound, _, rfl, rfl⟩
set_option maxRecDepth 20000 in
theorem j_X12_bound_114 (x0 x1 x2 x3 : Int) (rec_15 : Int × Int → hf_M Int) (hrec_15 : ∀ s : Int × Int, hf_J M_X12_bound 15 [(0, 2, x0), (1, 0, x1), (2, 0, s.1), (3, 0, s.2)] [] (rec_15 s)) : hf_J M_X12_bound 114 [(0, 2, x0), (1, 0, x1), (2, 0, x2), (3, 0, x3)] [] (f_X12_bound_114 rec_15 x0 x1 x2 x3) := by
  refine hf_iincB (pc := 114) (fun y => [(3, 0, y), (0, 2, x0), (1, 0, x1), (2, 0, x2)]) (q := 3) rfl (by decide) (fun _ => rfl) dX12_bound_114 (fun x3_114 => ?_)
  refine hf_goto (pc := 117) 15 dX12_bound_117 rfl ?_
  exact hf_sub [1, 2, 3, 0] rfl (hrec_15 (x2, x3_114))
set_option maxRecDepth 20000 in
theorem j_X12_bound_92 (x0 x1 x2 x3 x4 x5 : Int) (rec_15 : Int × Int → hf_M Int) (hrec_15 : ∀ s : Int × Int, hf_J M_X12_bound 15 [(0, 2, x0), (1, 0, x1), (2, 0, s.1), (3, 0, s.2)] [] (rec_15 s)) : hf_J M_X12_bound 92 [(0, 2, x0), (1, 0, x1), (2, 0, x2), (3, 0, x3), (4, 0, x4), (5, 0, x5)] [] (f_X12_bound_92 rec_15 x0 x1 x2 x3 x4 x5) := by
  refine hf_ild_n (pc := 92) 1 rfl rfl dX12_bound_92 ?_
  refine hf_if_ne (pc := 93) 114 dX12_bound_93 rfl ?_ ?_
  · exact hf_sub [0, 1, 2, 3] rfl (j_X12_bound_114 x0 x1 x2 x3 rec_15 hrec_15)
  · refine hf_ild (pc := 96) 5 rfl dX12_bound_96 ?_
    refine hf_if_ne (pc := 98) 114 dX12_bound_98 rfl ?_ ?_
    · exact hf_sub [0, 1, 2, 3] rfl (j_X12_bound_114 x0 x1 x2 x3 rec_15 hrec_15)
    · refine hf_ild (pc := 101) 4 rfl dX12_bound_101 ?_
      refine hf_ild_n (pc := 103) 2 rfl rfl dX12_bound_103 ?_
      refine hf_Jdib (pc := 104) (pcM := 113) (t := 0) (stM := []) (fun w113 => ?_) (fun a1 a2 => ?_)
      · refine hf_ist_n (pc := 113) (lv' := [(2, 0, w113), (0, 2, x0), (1, 0, x1), (3, 0, x3), (4, 0, x4), (5, 0, x5)]) rfl (by decide) rfl dX12_bound_113 ?_
        exact hf_sub [1, 2, 0, 3] rfl (j_X12_bound_114 x0 x1 w113 x3 rec_15 hrec_15)
      · refine hf_icmp_le (pc := 104) 112 dX12_bound_104 rfl ?_ ?_
        · refine hf_ild_n (pc := 112) 2 rfl rfl dX12_bound_112 ?_
          exact a1
        · refine hf_ild (pc := 107) 4 rfl dX12_bound_107 ?_
          refine hf_goto (pc := 109) 113 dX12_bound_109 rfl ?_
          exact a2
set_option maxRecDepth 20000 in
theorem jb_X12_bound_15 (x0 x1 : Int) (rec_15 : Int × Int → hf_M Int) (hrec_15 : ∀ s : Int × Int, hf_J M_X12_bound 15 [(0, 2, x0), (1, 0, x1), (2, 0, s.1), (3, 0, s.2)] [] (rec_15 s)) (x2 x3 : Int) : hf_J M_X12_bound 15 [(0, 2, x0), (1, 0, x1), (2, 0, x2), (3, 0, x3)] [] (B_X12_bound_15 x0 x1 rec_15 x2 x3) := by
  refine hf_ild_n (pc := 15) 3 rfl rfl dX12_bound_15 ?_
  refine hf_ald_n (pc := 16) 0 rfl rfl dX12_bound_16 ?_
  refine hf_getf (pc := 17) fl_X12_422 dX12_bound_17 (fun v17 => ?_)
  refine hf_icmp_ge (pc := 20) 120 dX12_bound_20 rfl ?_ ?_
  · refine hf_ild_n (pc := 120) 2 rfl rfl dX12_bound_120 ?_
    exact hf_Jret (pc := 121) dX12_bound_121 (fun _ => rfl)
  · refine hf_ald_n (pc := 23) 0 rfl rfl dX12_bound_23 ?_
    refine hf_getf (pc := 24) fl_X12_121 dX12_bound_24 (fun v24 => ?_)
    refine hf_ild_n (pc := 27) 3 rfl rfl dX12_bound_27 ?_
    refine hf_iald (pc := 28) dX12_bound_28 (fun v28 => ?_)
    refine hf_ald_n (pc := 29) 0 rfl rfl dX12_bound_29 ?_
    refine hf_getf (pc := 30) fl_X12_17 dX12_bound_30 (fun v30 => ?_)
    refine hf_ald_n (pc := 33) 0 rfl rfl dX12_bound_33 ?_
    refine hf_getf (pc := 34) fl_X12_118 dX12_bound_34 (fun v34 => ?_)
    refine hf_ild_n (pc := 37) 3 rfl rfl dX12_bound_37 ?_
    refine hf_iald (pc := 38) dX12_bound_38 (fun v38 => ?_)
    refine hf_iald (pc := 39) dX12_bound_39 (fun v39 => ?_)
    refine hf_isub (pc := 40) dX12_bound_40 ?_
    refine hf_istB (pc := 41) (fun y => [(4, 0, y), (0, 2, x0), (1, 0, x1), (2, 0, x2), (3, 0, x3)]) (by decide) (fun _ => rfl) dX12_bound_41 (fun x4_41 => ?_)
    refine hf_ald_n (pc := 43) 1 rfl rfl dX12_bound_43 ?_
    refine hf_ald_n (pc := 44) 1 rfl rfl dX12_bound_44 ?_
    refine hf_getf (pc := 45) fl_X12_419 dX12_bound_45 (fun v45 => ?_)
    refine hf_ald_n (pc := 48) 1 rfl rfl dX12_bound_48 ?_
    refine hf_getf (pc := 49) fl_X12_118 dX12_bound_49 (fun v49 => ?_)
    refine hf_ild_n (pc := 52) 4 rfl rfl dX12_bound_52 ?_
    refine hf_iald (pc := 53) dX12_bound_53 (fun v53 => ?_)
    refine hf_ald_n (pc := 54) 1 rfl rfl dX12_bound_54 ?_
    refine hf_getf (pc := 55) fl_X12_121 dX12_bound_55 (fun v55 => ?_)
    refine hf_ild_n (pc := 58) 4 rfl rfl dX12_bound_58 ?_
    refine hf_iald (pc := 59) dX12_bound_59 (fun v59 => ?_)
    refine hf_i2l (pc := 60) dX12_bound_60 ?_
    refine hf_cV (pc := 61) (N := M_X12_breaks) (ts := [0, 0, 1]) (vs := [v45, v53, v59]) (st := []) (fun r => [(0, r)]) (c_X12_breaks x0 v45 v53 v59) cal_X12_breaks ml_X12_326 ⟨hf_le rfl, hf_le rfl⟩ (hf_le rfl) ⟨rfl, rfl⟩ rfl dX12_bound_61 (fun _ => rfl) (fun v61 => ?_)
    refine hf_ist (pc := 64) (lv' := [(5, 0, v61), (4, 0, x4_41), (0, 2, x0), (1, 0, x1), (2, 0, x2), (3, 0, x3)]) (by decide) rfl dX12_bound_64 ?_
    refine hf_ild_n (pc := 66) 3 rfl rfl dX12_bound_66 ?_
    refine hf_if_eq (pc := 67) 92 dX12_bound_67 rfl ?_ ?_
    · exact hf_sub [2, 3, 4, 5, 1, 0] rfl (j_X12_bound_92 x0 x1 x2 x3 x4_41 v61 rec_15 hrec_15)
    · refine hf_ild (pc := 70) 0 rfl dX12_bound_70 ?_
      refine hf_if_eq (pc := 72) 92 dX12_bound_72 rfl ?_ ?_
      · exact hf_sub [2, 3, 4, 5, 1, 0] rfl (j_X12_bound_92 x0 x1 x2 x3 x4_41 v61 rec_15 hrec_15)
      · refine hf_ild (pc := 75) 1 rfl dX12_bound_75 ?_
        refine hf_iconst (pc := 77) dX12_bound_77 ?_
        refine hf_isub (pc := 78) dX12_bound_78 ?_
        refine hf_ild_n (pc := 79) 4 rfl rfl dX12_bound_79 ?_
        refine hf_Jdib (pc := 80) (pcM := 91) (t := 0) (stM := []) (fun w91 => ?_) (fun a1 a2 => ?_)
        · refine hf_ist_n (pc := 91) (lv' := [(2, 0, w91), (5, 0, v61), (4, 0, x4_41), (0, 2, x0), (1, 0, x1), (3, 0, x3)]) rfl (by decide) rfl dX12_bound_91 ?_
          exact hf_sub [3, 4, 0, 5, 2, 1] rfl (j_X12_bound_92 x0 x1 w91 x3 x4_41 v61 rec_15 hrec_15)
        · refine hf_icmp_ge (pc := 80) 90 dX12_bound_80 rfl ?_ ?_
          · refine hf_ild_n (pc := 90) 4 rfl rfl dX12_bound_90 ?_
            exact a1
          · refine hf_ild (pc := 83) 1 rfl dX12_bound_83 ?_
            refine hf_iconst (pc := 85) dX12_bound_85 ?_
            refine hf_isub (pc := 86) dX12_bound_86 ?_
            refine hf_goto (pc := 87) 91 dX12_bound_87 rfl ?_
            exact a2
set_option maxRecDepth 20000 in
theorem j_X12_bound_15 (x0 x1 x2 x3 : Int) : hf_J M_X12_bound 15 [(0, 2, x0), (1, 0, x1), (2, 0, x2), (3, 0, x3)] [] (f_X12_bound_15 x0 x1 x2 x3) :=
  hf_Jfx (L := fun s => [(0, 2, x0), (1, 0, x1), (2, 0, s.1), (3, 0, s.2)]) (fun rec hrec s => jb_X12_bound_15 x0 x1 rec hrec s.1 s.2) hf_N (x2, x3)
set_option maxRecDepth 20000 in
theorem j_X12_bound_12 (x0 x1 s0 : Int) : hf_J M_X12_bound 12 [(0, 2, x0), (1, 0, x1)] [(0, s0)] (f_X12_bound_12 x0 x1 s0) := by
  refine hf_ist_n (pc := 12) (lv' := [(2, 0, s0), (0, 2, x0), (1, 0, x1)]) rfl (by decide) rfl dX12_bound_12 ?_
  refine hf_iconst (pc := 13) dX12_bound_13 ?_
  refine hf_ist_n (pc := 14) (lv' := [(3, 0, 0), (2, 0, s0), (0, 2, x0), (1, 0, x1)]) rfl (by decide) rfl dX12_bound_14 ?_
  exact hf_sub [2, 3, 1, 0] rfl (j_X12_bound_15 x0 x1 s0 0)
set_option maxRecDepth 20000 in
theorem c_X12_bound (x0 x1 : Int) : hf_Met M_X12_bound [2, 0] [x0, x1] (f_X12_bound x0 x1) := by
  refine hf_met rfl (by decide) (by decide) (by decide) ?_
  show hf_J M_X12_bound 0 [(0, 2, x0), (1, 0, x1)] [] _
  refine hf_ild_n (pc := 0) 1 rfl rfl dX12_bound_0 ?_
  refine hf_if_eq (pc := 1) 11 dX12_bound_1 rfl ?_ ?_
  · refine hf_iconst (pc := 11) dX12_bound_11 ?_
    exact hf_sub [0, 1] rfl (j_X12_bound_12 x0 x1 0)
  · refine hf_ald_n (pc := 4) 0 rfl rfl dX12_bound_4 ?_
    refine hf_getf (pc := 5) fl_X12_13 dX12_bound_5 (fun v5 => ?_)
    refine hf_goto (pc := 8) 12 dX12_bound_8 rfl ?_
    exact hf_sub [0, 1] rfl (j_X12_bound_12 x0 x1 v5)
/-! HighFallModel.now(I)I -/
def M_X12_now : hf_D := (yX12_now, cX12_now, 4, some .int, 2, 49)
def B_X12_now_98 (x0 : Int) (rec_98 : Int × Int → hf_M Int) (x2 x3 : Int) : hf_M Int :=
  hf_bd (hf_gf 12 65 x0) (fun v100 => hf_cb x3 v100 (v100 ≤ x3) (hf_ret x2) (hf_bd (hf_gf 12 68 x0) (fun v108 => hf_bd (hf_al 20 v108 x3) (fun v112 => hf_bd (hf_ret (x2 + v112)) (fun x2_114 => hf_bd (hf_ret (x3 + 1)) (fun x3_115 => rec_98 (x2_114, x3_115)))))))
def f_X12_now_98 (x0 x2 x3 : Int) : hf_M Int := hf_fx (fun rec s => B_X12_now_98 x0 rec s.1 s.2) hf_N (x2, x3)
def f_X12_now (x0 x1 : Int) : hf_M Int :=
  hf_bd (hf_pf 12 2 x0 0) (fun _ => hf_bd (hf_gf 12 63 x0) (fun v6 => hf_cz v6 (¬ v6 = 0) (hf_ck (hf_inI x1) (hf_it (x1 = 0) (hf_bd (hf_ob 12 x0 (f_X12_bound x0 0)) (fun v58 => hf_ret v58)) (hf_it (x1 = 1) (hf_bd (hf_ob 12 x0 (f_X12_bound x0 1)) (fun v64 => hf_ret v64)) (hf_it (x1 = 2) (hf_bd (hf_gf 12 65 x0) (fun v69 => hf_ret v69)) (hf_it (x1 = 3) (hf_bd (hf_ob 12 x0 (f_X12_leftNow x0 0)) (fun v75 => hf_bd (hf_ob 12 x0 (f_X12_leftNow x0 1)) (fun v81 => hf_bd (hf_ob 12 x0 (f_X12_leftNow x0 2)) (fun v90 => hf_ret ((v75 + (5 * v81)) + (25 * v90)))))) (hf_it (x1 = 4) (f_X12_now_98 x0 0 0) (hf_it (x1 = 5) (hf_bd (hf_gf 12 64 x0) (fun v124 => hf_ret v124)) (hf_ret (-1))))))))) (hf_ret (-1))))
theorem cal_X12_now : hf_cv M_X12_now 12 1 := ⟨⟨ii_X12, kc_X12_now, by decide, by decide, by decide +kernel⟩, ki_X12_now, kv_X12_now, _, rfl, rfl⟩
set_option maxRecDepth 20000 in
theorem jb_X12_now_98 (x0 : Int) (rec_98 : Int × Int → hf_M Int) (hrec_98 : ∀ s : Int × Int, hf_J M_X12_now 98 [(0, 2, x0), (2, 0, s.1), (3, 0, s.2)] [] (rec_98 s)) (x2 x3 : Int) : hf_J M_X12_now 98 [(0, 2, x0), (2, 0, x2), (3, 0, x3)] [] (B_X12_now_98 x0 rec_98 x2 x3) := by
  refine hf_ild_n (pc := 98) 2 rfl rfl dX12_now_98 ?_
  refine hf_ald_n (pc := 99) 0 rfl rfl dX12_now_99 ?_
  refine hf_getf (pc := 100) fl_X12_422 dX12_now_100 (fun v100 => ?_)
  refine hf_icmp_ge (pc := 103) 121 dX12_now_103 rfl ?_ ?_
  · refine hf_ild_n (pc := 121) 1 rfl rfl dX12_now_121 ?_
    exact hf_Jret (pc := 122) dX12_now_122 (fun _ => rfl)
  · refine hf_ild_n (pc := 106) 1 rfl rfl dX12_now_106 ?_
    refine hf_ald_n (pc := 107) 0 rfl rfl dX12_now_107 ?_
    refine hf_getf (pc := 108) fl_X12_124 dX12_now_108 (fun v108 => ?_)
    refine hf_ild_n (pc := 111) 2 rfl rfl dX12_now_111 ?_
    refine hf_iald (pc := 112) dX12_now_112 (fun v112 => ?_)
    refine hf_iadd (pc := 113) dX12_now_113 ?_
    refine hf_ist_nB (pc := 114) (fun y => [(2, 0, y), (0, 2, x0), (3, 0, x3)]) rfl (by decide) (fun _ => rfl) dX12_now_114 (fun x2_114 => ?_)
    refine hf_iincB (pc := 115) (fun y => [(3, 0, y), (2, 0, x2_114), (0, 2, x0)]) (q := 2) rfl (by decide) (fun _ => rfl) dX12_now_115 (fun x3_115 => ?_)
    refine hf_goto (pc := 118) 98 dX12_now_118 rfl ?_
    exact hf_sub [2, 1, 0] rfl (hrec_98 (x2_114, x3_115))
set_option maxRecDepth 20000 in
theorem j_X12_now_98 (x0 x2 x3 : Int) : hf_J M_X12_now 98 [(0, 2, x0), (2, 0, x2), (3, 0, x3)] [] (f_X12_now_98 x0 x2 x3) :=
  hf_Jfx (L := fun s => [(0, 2, x0), (2, 0, s.1), (3, 0, s.2)]) (fun rec hrec s => jb_X12_now_98 x0 rec hrec s.1 s.2) hf_N (x2, x3)
set_option maxRecDepth 20000 in
theorem c_X12_now (x0 x1 : Int) : hf_Met M_X12_now [2, 0] [x0, x1] (f_X12_now x0 x1) := by
  refine hf_met rfl (by decide) (by decide) (by decide) ?_
  show hf_J M_X12_now 0 [(0, 2, x0), (1, 0, x1)] [] _
  refine hf_ald_n (pc := 0) 0 rfl rfl dX12_now_0 ?_
  refine hf_iconst (pc := 1) dX12_now_1 ?_
  refine hf_putf (pc := 2) fl_X12_127 trivial dX12_now_2 ?_
  refine hf_ald_n (pc := 5) 0 rfl rfl dX12_now_5 ?_
  refine hf_getf (pc := 6) fl_X12_140 dX12_now_6 (fun v6 => ?_)
  refine hf_if_ne (pc := 9) 14 dX12_now_9 rfl ?_ ?_
  · refine hf_iconst (pc := 14) dX12_now_14 ?_
    refine hf_ist_n (pc := 15) (lv' := [(2, 0, 0), (0, 2, x0), (1, 0, x1)]) rfl (by decide) rfl dX12_now_15 ?_
    refine hf_ild_n (pc := 16) 2 rfl rfl dX12_now_16 ?_
    refine hf_Jck (fun hr => ?_)
    refine hf_Jit (fun hc0 => ?_) (fun hc0 => ?_)
    · refine hf_tsw (pc := 17) 56 39 hr dX12_now_17 (by omega) (by omega) (by rw [hc0]; rfl) rfl ?_
      refine hf_ald_n (pc := 56) 1 rfl rfl dX12_now_56 ?_
      refine hf_iconst (pc := 57) dX12_now_57 ?_
      refine hf_cV (pc := 58) (N := M_X12_bound) (ts := [0]) (vs := [0]) (st := []) (fun r => [(0, r)]) (c_X12_bound x0 0) cal_X12_bound ml_X12_428 ⟨hf_le rfl, hf_le rfl⟩ (hf_le rfl) ⟨rfl, rfl⟩ rfl dX12_now_58 (fun _ => rfl) (fun v58 => ?_)
      exact hf_Jret (pc := 61) dX12_now_61 (fun _ => rfl)
    · refine hf_Jit (fun hc1 => ?_) (fun hc1 => ?_)
      · refine hf_tsw (pc := 17) 62 45 hr dX12_now_17 (by omega) (by omega) (by rw [hc1]; rfl) rfl ?_
        refine hf_ald_n (pc := 62) 1 rfl rfl dX12_now_62 ?_
        refine hf_iconst (pc := 63) dX12_now_63 ?_
        refine hf_cV (pc := 64) (N := M_X12_bound) (ts := [0]) (vs := [1]) (st := []) (fun r => [(0, r)]) (c_X12_bound x0 1) cal_X12_bound ml_X12_428 ⟨hf_le rfl, hf_le rfl⟩ (hf_le rfl) ⟨rfl, rfl⟩ rfl dX12_now_64 (fun _ => rfl) (fun v64 => ?_)
        exact hf_Jret (pc := 67) dX12_now_67 (fun _ => rfl)
      · refine hf_Jit (fun hc2 => ?_) (fun hc2 => ?_)
        · refine hf_tsw (pc := 17) 68 51 hr dX12_now_17 (by omega) (by omega) (by rw [hc2]; rfl) rfl ?_
          refine hf_ald_n (pc := 68) 1 rfl rfl dX12_now_68 ?_
          refine hf_getf (pc := 69) fl_X12_422 dX12_now_69 (fun v69 => ?_)
          exact hf_Jret (pc := 72) dX12_now_72 (fun _ => rfl)
        · refine hf_Jit (fun hc3 => ?_) (fun hc3 => ?_)
          · refine hf_tsw (pc := 17) 73 56 hr dX12_now_17 (by omega) (by omega) (by rw [hc3]; rfl) rfl ?_
            refine hf_ald_n (pc := 73) 1 rfl rfl dX12_now_73 ?_
            refine hf_iconst (pc := 74) dX12_now_74 ?_
            refine hf_cV (pc := 75) (N := M_X12_leftNow) (ts := [0]) (vs := [0]) (st := []) (fun r => [(0, r)]) (c_X12_leftNow x0 0) cal_X12_leftNow ml_X12_425 ⟨hf_le rfl, hf_le rfl⟩ (hf_le rfl) ⟨rfl, rfl⟩ rfl dX12_now_75 (fun _ => rfl) (fun v75 => ?_)
            refine hf_iconst (pc := 78) dX12_now_78 ?_
            refine hf_ald_n (pc := 79) 1 rfl rfl dX12_now_79 ?_
            refine hf_iconst (pc := 80) dX12_now_80 ?_
            refine hf_cV (pc := 81) (N := M_X12_leftNow) (ts := [0]) (vs := [1]) (st := [(0, 5), (0, v75)]) (fun r => [(0, r), (0, 5), (0, v75)]) (c_X12_leftNow x0 1) cal_X12_leftNow ml_X12_425 ⟨hf_le rfl, hf_le rfl⟩ (hf_le rfl) ⟨rfl, rfl⟩ rfl dX12_now_81 (fun _ => rfl) (fun v81 => ?_)
            refine hf_imul (pc := 84) dX12_now_84 ?_
            refine hf_iadd (pc := 85) dX12_now_85 ?_
            refine hf_bipush (pc := 86) dX12_now_86 (by decide) ?_
            refine hf_ald_n (pc := 88) 1 rfl rfl dX12_now_88 ?_
            refine hf_iconst (pc := 89) dX12_now_89 ?_
            refine hf_cV (pc := 90) (N := M_X12_leftNow) (ts := [0]) (vs := [2]) (st := [(0, 25), (0, (v75 + (5 * v81)))]) (fun r => [(0, r), (0, 25), (0, (v75 + (5 * v81)))]) (c_X12_leftNow x0 2) cal_X12_leftNow ml_X12_425 ⟨hf_le rfl, hf_le rfl⟩ (hf_le rfl) ⟨rfl, rfl⟩ rfl dX12_now_90 (fun _ => rfl) (fun v90 => ?_)
            refine hf_imul (pc := 93) dX12_now_93 ?_
            refine hf_iadd (pc := 94) dX12_now_94 ?_
            exact hf_Jret (pc := 95) dX12_now_95 (fun _ => rfl)
          · refine hf_Jit (fun hc4 => ?_) (fun hc4 => ?_)
            · refine hf_tsw (pc := 17) 96 79 hr dX12_now_17 (by omega) (by omega) (by rw [hc4]; rfl) rfl ?_
              refine hf_iconst (pc := 96) dX12_now_96 ?_
              refine hf_ist_n (pc := 97) (lv' := [(3, 0, 0), (2, 0, 0), (0, 2, x0), (1, 0, x1)]) rfl (by decide) rfl dX12_now_97 ?_
              exact hf_sub [2, 1, 0] rfl (j_X12_now_98 x0 0 0)
            · refine hf_Jit (fun hc5 => ?_) (fun hc5 => ?_)
              · refine hf_tsw (pc := 17) 123 106 hr dX12_now_17 (by omega) (by omega) (by rw [hc5]; rfl) rfl ?_
                refine hf_ald_n (pc := 123) 1 rfl rfl dX12_now_123 ?_
                refine hf_getf (pc := 124) fl_X12_419 dX12_now_124 (fun v124 => ?_)
                exact hf_Jret (pc := 127) dX12_now_127 (fun _ => rfl)
              · refine hf_tswd (pc := 17) 128 hr dX12_now_17 (by omega) rfl ?_
                refine hf_iconst (pc := 128) dX12_now_128 ?_
                exact hf_Jret (pc := 129) dX12_now_129 (fun _ => rfl)
  · refine hf_iconst (pc := 12) dX12_now_12 ?_
    exact hf_Jret (pc := 13) dX12_now_13 (fun _ => rfl)
/-! HighFallModel.count(I)I -/
def M_X12_count : hf_D := (yX12_count, cX12_count, 2, some .int, 1, 24)
def f_X12_count (x0 x1 : Int) : hf_M Int :=
  hf_bd (hf_pf 12 2 x0 0) (fun _ => hf_ck (hf_inI x1) (hf_it (x1 = 0) (hf_bd (hf_gf 12 3 x0) (fun v49 => hf_ret v49)) (hf_it (x1 = 1) (hf_bd (hf_gf 12 19 x0) (fun v54 => hf_ret v54)) (hf_it (x1 = 2) (hf_bd (hf_gf 12 20 x0) (fun v59 => hf_ret v59)) (hf_it (x1 = 3) (hf_bd (hf_gf 12 57 x0) (fun v64 => hf_ret v64)) (hf_it (x1 = 4) (hf_bd (hf_gf 12 8 x0) (fun v69 => hf_ret v69)) (hf_it (x1 = 5) (hf_bd (hf_gf 12 9 x0) (fun v74 => hf_ret v74)) (hf_it (x1 = 6) (hf_bd (hf_gf 12 3 x0) (fun v81 => hf_bd (hf_ob 12 x0 (f_X12_weightsOf x0 0 v81)) (fun v84 => hf_ret v84))) (hf_ret (-1))))))))))
theorem cal_X12_count : hf_cv M_X12_count 12 1 := ⟨⟨ii_X12, kc_X12_count, by decide, by decide, by decide +kernel⟩, ki_X12_count, kv_X12_count, _, rfl, rfl⟩
set_option maxRecDepth 20000 in
theorem c_X12_count (x0 x1 : Int) : hf_Met M_X12_count [2, 0] [x0, x1] (f_X12_count x0 x1) := by
  refine hf_met rfl (by decide) (by decide) (by decide) ?_
  show hf_J M_X12_count 0 [(0, 2, x0), (1, 0, x1)] [] _
  refine hf_ald_n (pc := 0) 0 rfl rfl dX12_count_0 ?_
  refine hf_iconst (pc := 1) dX12_count_1 ?_
  refine hf_putf (pc := 2) fl_X12_127 trivial dX12_count_2 ?_
  refine hf_ild_n (pc := 5) 1 rfl rfl dX12_count_5 ?_
  refine hf_Jck (fun hr => ?_)
  refine hf_Jit (fun hc0 => ?_) (fun hc0 => ?_)
  · refine hf_tsw (pc := 6) 48 42 hr dX12_count_6 (by omega) (by omega) (by rw [hc0]; rfl) rfl ?_
    refine hf_ald_n (pc := 48) 0 rfl rfl dX12_count_48 ?_
    refine hf_getf (pc := 49) fl_X12_13 dX12_count_49 (fun v49 => ?_)
    exact hf_Jret (pc := 52) dX12_count_52 (fun _ => rfl)
  · refine hf_Jit (fun hc1 => ?_) (fun hc1 => ?_)
    · refine hf_tsw (pc := 6) 53 47 hr dX12_count_6 (by omega) (by omega) (by rw [hc1]; rfl) rfl ?_
      refine hf_ald_n (pc := 53) 0 rfl rfl dX12_count_53 ?_
      refine hf_getf (pc := 54) fl_X12_269 dX12_count_54 (fun v54 => ?_)
      exact hf_Jret (pc := 57) dX12_count_57 (fun _ => rfl)
    · refine hf_Jit (fun hc2 => ?_) (fun hc2 => ?_)
      · refine hf_tsw (pc := 6) 58 52 hr dX12_count_6 (by omega) (by omega) (by rw [hc2]; rfl) rfl ?_
        refine hf_ald_n (pc := 58) 0 rfl rfl dX12_count_58 ?_
        refine hf_getf (pc := 59) fl_X12_272 dX12_count_59 (fun v59 => ?_)
        exact hf_Jret (pc := 62) dX12_count_62 (fun _ => rfl)
      · refine hf_Jit (fun hc3 => ?_) (fun hc3 => ?_)
        · refine hf_tsw (pc := 6) 63 57 hr dX12_count_6 (by omega) (by omega) (by rw [hc3]; rfl) rfl ?_
          refine hf_ald_n (pc := 63) 0 rfl rfl dX12_count_63 ?_
          refine hf_getf (pc := 64) fl_X12_137 dX12_count_64 (fun v64 => ?_)
          exact hf_Jret (pc := 67) dX12_count_67 (fun _ => rfl)
        · refine hf_Jit (fun hc4 => ?_) (fun hc4 => ?_)
          · refine hf_tsw (pc := 6) 68 62 hr dX12_count_6 (by omega) (by omega) (by rw [hc4]; rfl) rfl ?_
            refine hf_ald_n (pc := 68) 0 rfl rfl dX12_count_68 ?_
            refine hf_getf (pc := 69) fl_X12_29 dX12_count_69 (fun v69 => ?_)
            exact hf_Jret (pc := 72) dX12_count_72 (fun _ => rfl)
          · refine hf_Jit (fun hc5 => ?_) (fun hc5 => ?_)
            · refine hf_tsw (pc := 6) 73 67 hr dX12_count_6 (by omega) (by omega) (by rw [hc5]; rfl) rfl ?_
              refine hf_ald_n (pc := 73) 0 rfl rfl dX12_count_73 ?_
              refine hf_getf (pc := 74) fl_X12_148 dX12_count_74 (fun v74 => ?_)
              exact hf_Jret (pc := 77) dX12_count_77 (fun _ => rfl)
            · refine hf_Jit (fun hc6 => ?_) (fun hc6 => ?_)
              · refine hf_tsw (pc := 6) 78 72 hr dX12_count_6 (by omega) (by omega) (by rw [hc6]; rfl) rfl ?_
                refine hf_ald_n (pc := 78) 0 rfl rfl dX12_count_78 ?_
                refine hf_iconst (pc := 79) dX12_count_79 ?_
                refine hf_ald_n (pc := 80) 0 rfl rfl dX12_count_80 ?_
                refine hf_getf (pc := 81) fl_X12_13 dX12_count_81 (fun v81 => ?_)
                refine hf_cV (pc := 84) (N := M_X12_weightsOf) (ts := [0, 0]) (vs := [0, v81]) (st := []) (fun r => [(0, r)]) (c_X12_weightsOf x0 0 v81) cal_X12_weightsOf ml_X12_408 ⟨hf_le rfl, hf_le rfl⟩ (hf_le rfl) ⟨rfl, rfl⟩ rfl dX12_count_84 (fun _ => rfl) (fun v84 => ?_)
                exact hf_Jret (pc := 87) dX12_count_87 (fun _ => rfl)
              · refine hf_tswd (pc := 6) 88 hr dX12_count_6 (by omega) rfl ?_
                refine hf_iconst (pc := 88) dX12_count_88 ?_
                exact hf_Jret (pc := 89) dX12_count_89 (fun _ => rfl)
