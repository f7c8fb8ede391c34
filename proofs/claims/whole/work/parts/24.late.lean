/-! Token.wordOf(I)Ljava/lang/String; -/
def M_X9_wordOf : hf_D := (yX9_wordOf, cX9_wordOf, 1, some (.object "java/lang/String"), 0, 0)
def f_X9_wordOf (x0 : Int) : hf_M Int :=
  hf_ck (hf_inI x0) (hf_it (x0 = 6) (hf_ret (-2)) (hf_it (x0 = 7) (hf_ret (-4)) (hf_it (x0 = 8) (hf_ret (-6)) (hf_it (x0 = 9) (hf_ret (-8)) (hf_it (x0 = 10) (hf_ret (-10)) (hf_it (x0 = 11) (hf_ret (-12)) (hf_it (x0 = 12) (hf_ret (-14)) (hf_it (x0 = 13) (hf_ret (-16)) (hf_it (x0 = 14) (hf_ret (-18)) (hf_it (x0 = 15) (hf_ret (-20)) (hf_it (x0 = 16) (hf_ret (-22)) (hf_it (x0 = 17) (hf_ret (-24)) (hf_it (x0 = 18) (hf_ret (-26)) (hf_it (x0 = 19) (hf_ret (-28)) (hf_it (x0 = 20) (hf_ret (-30)) (hf_ret (-32)))))))))))))))))
theorem cal_X9_wordOf : hf_csx M_X9_wordOf 1 := ⟨⟨ii_X9, kc_X9_wordOf, by decide, by decide, by decide +kernel⟩, ks_X9_wordOf⟩
set_option maxRecDepth 20000 in
theorem c_X9_wordOf (x0 : Int) : hf_Met M_X9_wordOf [0] [x0] (f_X9_wordOf x0) := by
  refine hf_met rfl (by decide) (by decide) (by decide) ?_
  show hf_J M_X9_wordOf 0 [(0, 0, x0)] [] _
  refine hf_ild_n (pc := 0) 0 rfl rfl dX9_wordOf_0 ?_
  refine hf_Jck (fun hr => ?_)
  refine hf_Jit (fun hc0 => ?_) (fun hc0 => ?_)
  · refine hf_tsw (pc := 1) 76 75 hr dX9_wordOf_1 (by omega) (by omega) (by rw [hc0]; rfl) rfl ?_
    refine hf_ldcs (pc := 76) 0 (by decide) rfl dX9_wordOf_76 rfl ?_
    exact hf_Jret (pc := 78) dX9_wordOf_78 (fun _ => rfl)
  · refine hf_Jit (fun hc1 => ?_) (fun hc1 => ?_)
    · refine hf_tsw (pc := 1) 79 78 hr dX9_wordOf_1 (by omega) (by omega) (by rw [hc1]; rfl) rfl ?_
      refine hf_ldcs (pc := 79) 1 (by decide) rfl dX9_wordOf_79 rfl ?_
      exact hf_Jret (pc := 81) dX9_wordOf_81 (fun _ => rfl)
    · refine hf_Jit (fun hc2 => ?_) (fun hc2 => ?_)
      · refine hf_tsw (pc := 1) 82 81 hr dX9_wordOf_1 (by omega) (by omega) (by rw [hc2]; rfl) rfl ?_
        refine hf_ldcs (pc := 82) 2 (by decide) rfl dX9_wordOf_82 rfl ?_
        exact hf_Jret (pc := 84) dX9_wordOf_84 (fun _ => rfl)
      · refine hf_Jit (fun hc3 => ?_) (fun hc3 => ?_)
        · refine hf_tsw (pc := 1) 85 84 hr dX9_wordOf_1 (by omega) (by omega) (by rw [hc3]; rfl) rfl ?_
          refine hf_ldcs (pc := 85) 3 (by decide) rfl dX9_wordOf_85 rfl ?_
          exact hf_Jret (pc := 87) dX9_wordOf_87 (fun _ => rfl)
        · refine hf_Jit (fun hc4 => ?_) (fun hc4 => ?_)
          · refine hf_tsw (pc := 1) 88 87 hr dX9_wordOf_1 (by omega) (by omega) (by rw [hc4]; rfl) rfl ?_
            refine hf_ldcs (pc := 88) 4 (by decide) rfl dX9_wordOf_88 rfl ?_
            exact hf_Jret (pc := 90) dX9_wordOf_90 (fun _ => rfl)
          · refine hf_Jit (fun hc5 => ?_) (fun hc5 => ?_)
            · refine hf_tsw (pc := 1) 91 90 hr dX9_wordOf_1 (by omega) (by omega) (by rw [hc5]; rfl) rfl ?_
              refine hf_ldcs (pc := 91) 5 (by decide) rfl dX9_wordOf_91 rfl ?_
              exact hf_Jret (pc := 93) dX9_wordOf_93 (fun _ => rfl)
            · refine hf_Jit (fun hc6 => ?_) (fun hc6 => ?_)
              · refine hf_tsw (pc := 1) 94 93 hr dX9_wordOf_1 (by omega) (by omega) (by rw [hc6]; rfl) rfl ?_
                refine hf_ldcs (pc := 94) 6 (by decide) rfl dX9_wordOf_94 rfl ?_
                exact hf_Jret (pc := 96) dX9_wordOf_96 (fun _ => rfl)
              · refine hf_Jit (fun hc7 => ?_) (fun hc7 => ?_)
                · refine hf_tsw (pc := 1) 97 96 hr dX9_wordOf_1 (by omega) (by omega) (by rw [hc7]; rfl) rfl ?_
                  refine hf_ldcs (pc := 97) 7 (by decide) rfl dX9_wordOf_97 rfl ?_
                  exact hf_Jret (pc := 99) dX9_wordOf_99 (fun _ => rfl)
                · refine hf_Jit (fun hc8 => ?_) (fun hc8 => ?_)
                  · refine hf_tsw (pc := 1) 100 99 hr dX9_wordOf_1 (by omega) (by omega) (by rw [hc8]; rfl) rfl ?_
                    refine hf_ldcs (pc := 100) 8 (by decide) rfl dX9_wordOf_100 rfl ?_
                    exact hf_Jret (pc := 102) dX9_wordOf_102 (fun _ => rfl)
                  · refine hf_Jit (fun hc9 => ?_) (fun hc9 => ?_)
                    · refine hf_tsw (pc := 1) 103 102 hr dX9_wordOf_1 (by omega) (by omega) (by rw [hc9]; rfl) rfl ?_
                      refine hf_ldcs (pc := 103) 9 (by decide) rfl dX9_wordOf_103 rfl ?_
                      exact hf_Jret (pc := 105) dX9_wordOf_105 (fun _ => rfl)
                    · refine hf_Jit (fun hc10 => ?_) (fun hc10 => ?_)
                      · refine hf_tsw (pc := 1) 106 105 hr dX9_wordOf_1 (by omega) (by omega) (by rw [hc10]; rfl) rfl ?_
                        refine hf_ldcs (pc := 106) 10 (by decide) rfl dX9_wordOf_106 rfl ?_
                        exact hf_Jret (pc := 108) dX9_wordOf_108 (fun _ => rfl)
                      · refine hf_Jit (fun hc11 => ?_) (fun hc11 => ?_)
                        · refine hf_tsw (pc := 1) 109 108 hr dX9_wordOf_1 (by omega) (by omega) (by rw [hc11]; rfl) rfl ?_
                          refine hf_ldcs (pc := 109) 11 (by decide) rfl dX9_wordOf_109 rfl ?_
                          exact hf_Jret (pc := 111) dX9_wordOf_111 (fun _ => rfl)
                        · refine hf_Jit (fun hc12 => ?_) (fun hc12 => ?_)
                          · refine hf_tsw (pc := 1) 112 111 hr dX9_wordOf_1 (by omega) (by omega) (by rw [hc12]; rfl) rfl ?_
                            refine hf_ldcs (pc := 112) 12 (by decide) rfl dX9_wordOf_112 rfl ?_
                            exact hf_Jret (pc := 114) dX9_wordOf_114 (fun _ => rfl)
                          · refine hf_Jit (fun hc13 => ?_) (fun hc13 => ?_)
                            · refine hf_tsw (pc := 1) 115 114 hr dX9_wordOf_1 (by omega) (by omega) (by rw [hc13]; rfl) rfl ?_
                              refine hf_ldcs (pc := 115) 13 (by decide) rfl dX9_wordOf_115 rfl ?_
                              exact hf_Jret (pc := 117) dX9_wordOf_117 (fun _ => rfl)
                            · refine hf_Jit (fun hc14 => ?_) (fun hc14 => ?_)
                              · refine hf_tsw (pc := 1) 118 117 hr dX9_wordOf_1 (by omega) (by omega) (by rw [hc14]; rfl) rfl ?_
                                refine hf_ldcs (pc := 118) 14 (by decide) rfl dX9_wordOf_118 rfl ?_
                                exact hf_Jret (pc := 120) dX9_wordOf_120 (fun _ => rfl)
                              · refine hf_tswd (pc := 1) 121 hr dX9_wordOf_1 (by omega) rfl ?_
                                refine hf_ldcs (pc := 121) 15 (by decide) rfl dX9_wordOf_121 rfl ?_
                                exact hf_Jret (pc := 123) dX9_wordOf_123 (fun _ => rfl)
/-! Token.isWord(Ljava/lang/String;)Z -/
def M_X9_isWord : hf_D := (yX9_isWord, cX9_isWord, 3, some .boolean, 4, 85)
def B_X9_isWord_20 (x0 x1 : Int) (rec_20 : Int → hf_M Int) (x2 : Int) : hf_M Int :=
  hf_bd (f_J0_length_8abf5 x1) (fun v22 => hf_cb x2 v22 (v22 ≤ x2) (hf_ret 1) (hf_bd (hf_gf 9 0 x0) (fun v29 => hf_bd (hf_gf 9 4 x0) (fun v33 => hf_bd (hf_al 20 v29 (v33 + x2)) (fun v38 => hf_bd (f_J0_charAt_5068e x1 x2) (fun v41 => hf_cb v38 v41 (v38 = v41) (hf_bd (hf_ret (x2 + 1)) (fun x2_49 => rec_20 x2_49)) (hf_ret 0)))))))
def f_X9_isWord_20 (x0 x1 x2 : Int) : hf_M Int := hf_fx (fun rec s => B_X9_isWord_20 x0 x1 rec s) hf_N x2
def f_X9_isWord (x0 x1 : Int) : hf_M Int :=
  hf_bd (f_J0_length_8abf5 x1) (fun v1 => hf_bd (hf_gf 9 2 x0) (fun v5 => hf_bd (hf_gf 9 4 x0) (fun v9 => hf_cb v1 (v5 - v9) (v1 = (v5 - v9)) (f_X9_isWord_20 x0 x1 0) (hf_ret 0))))
theorem cal_X9_isWord : hf_cv M_X9_isWord 9 1 := ⟨⟨ii_X9, kc_X9_isWord, by decide, by decide, by decide +kernel⟩, ki_X9_isWord, kv_X9_isWord, _, rfl, rfl⟩
set_option maxRecDepth 20000 in
theorem jb_X9_isWord_20 (x0 x1 : Int) (rec_20 : Int → hf_M Int) (hrec_20 : ∀ s : Int, hf_J M_X9_isWord 20 [(0, 2, x0), (1, 2, x1), (2, 0, s)] [] (rec_20 s)) (x2 : Int) : hf_J M_X9_isWord 20 [(0, 2, x0), (1, 2, x1), (2, 0, x2)] [] (B_X9_isWord_20 x0 x1 rec_20 x2) := by
  refine hf_ild_n (pc := 20) 2 rfl rfl dX9_isWord_20 ?_
  refine hf_ald_n (pc := 21) 1 rfl rfl dX9_isWord_21 ?_
  refine hf_cVS (pc := 22) (hm_J0_length_8abf5 x1) (N := M_J0_length_8abf5) (ts := []) (vs := []) (st := [(0, x2)]) (fun r => [(0, r), (0, x2)]) (c_J0_length_8abf5 x1) cal_J0_length_8abf5 ml_X9_59 ⟨hf_le rfl, hf_le rfl⟩ (hf_le rfl) ⟨rfl, rfl⟩ rfl dX9_isWord_22 (fun _ => rfl) (fun v22 => ?_)
  refine hf_icmp_ge (pc := 25) 55 dX9_isWord_25 rfl ?_ ?_
  · refine hf_iconst (pc := 55) dX9_isWord_55 ?_
    exact hf_Jret (pc := 56) (r := 1) ⟨dX9_isWord_56, Or.inr rfl⟩ (fun _ => rfl)
  · refine hf_ald_n (pc := 28) 0 rfl rfl dX9_isWord_28 ?_
    refine hf_getf (pc := 29) fl_X9_7 dX9_isWord_29 (fun v29 => ?_)
    refine hf_ald_n (pc := 32) 0 rfl rfl dX9_isWord_32 ?_
    refine hf_getf (pc := 33) fl_X9_23 dX9_isWord_33 (fun v33 => ?_)
    refine hf_ild_n (pc := 36) 2 rfl rfl dX9_isWord_36 ?_
    refine hf_iadd (pc := 37) dX9_isWord_37 ?_
    refine hf_iald (pc := 38) dX9_isWord_38 (fun v38 => ?_)
    refine hf_ald_n (pc := 39) 1 rfl rfl dX9_isWord_39 ?_
    refine hf_ild_n (pc := 40) 2 rfl rfl dX9_isWord_40 ?_
    refine hf_cVS (pc := 41) (hm_J0_charAt_5068e x1 x2) (N := M_J0_charAt_5068e) (ts := [0]) (vs := [x2]) (st := [(0, v38)]) (fun r => [(0, r), (0, v38)]) (c_J0_charAt_5068e x1 x2) cal_J0_charAt_5068e ml_X9_64 ⟨hf_le rfl, hf_le rfl⟩ (hf_le rfl) ⟨rfl, rfl⟩ rfl dX9_isWord_41 (fun _ => rfl) (fun v41 => ?_)
    refine hf_icmp_eq (pc := 44) 49 dX9_isWord_44 rfl ?_ ?_
    · refine hf_iincB (pc := 49) (fun y => [(2, 0, y), (0, 2, x0), (1, 2, x1)]) (q := 2) rfl (by decide) (fun _ => rfl) dX9_isWord_49 (fun x2_49 => ?_)
      refine hf_goto (pc := 52) 20 dX9_isWord_52 rfl ?_
      exact hf_sub [1, 2, 0] rfl (hrec_20 x2_49)
    · refine hf_iconst (pc := 47) dX9_isWord_47 ?_
      exact hf_Jret (pc := 48) (r := 0) ⟨dX9_isWord_48, Or.inl rfl⟩ (fun _ => rfl)
set_option maxRecDepth 20000 in
theorem j_X9_isWord_20 (x0 x1 x2 : Int) : hf_J M_X9_isWord 20 [(0, 2, x0), (1, 2, x1), (2, 0, x2)] [] (f_X9_isWord_20 x0 x1 x2) :=
  hf_Jfx (L := fun s => [(0, 2, x0), (1, 2, x1), (2, 0, s)]) (fun rec hrec s => jb_X9_isWord_20 x0 x1 rec hrec s) hf_N x2
set_option maxRecDepth 20000 in
theorem c_X9_isWord (x0 x1 : Int) : hf_Met M_X9_isWord [2, 2] [x0, x1] (f_X9_isWord x0 x1) := by
  refine hf_met rfl (by decide) (by decide) (by decide) ?_
  show hf_J M_X9_isWord 0 [(0, 2, x0), (1, 2, x1)] [] _
  refine hf_ald_n (pc := 0) 1 rfl rfl dX9_isWord_0 ?_
  refine hf_cVS (pc := 1) (hm_J0_length_8abf5 x1) (N := M_J0_length_8abf5) (ts := []) (vs := []) (st := []) (fun r => [(0, r)]) (c_J0_length_8abf5 x1) cal_J0_length_8abf5 ml_X9_59 ⟨hf_le rfl, hf_le rfl⟩ (hf_le rfl) ⟨rfl, rfl⟩ rfl dX9_isWord_1 (fun _ => rfl) (fun v1 => ?_)
  refine hf_ald_n (pc := 4) 0 rfl rfl dX9_isWord_4 ?_
  refine hf_getf (pc := 5) fl_X9_17 dX9_isWord_5 (fun v5 => ?_)
  refine hf_ald_n (pc := 8) 0 rfl rfl dX9_isWord_8 ?_
  refine hf_getf (pc := 9) fl_X9_23 dX9_isWord_9 (fun v9 => ?_)
  refine hf_isub (pc := 12) dX9_isWord_12 ?_
  refine hf_icmp_eq (pc := 13) 18 dX9_isWord_13 rfl ?_ ?_
  · refine hf_iconst (pc := 18) dX9_isWord_18 ?_
    refine hf_ist_n (pc := 19) (lv' := [(2, 0, 0), (0, 2, x0), (1, 2, x1)]) rfl (by decide) rfl dX9_isWord_19 ?_
    exact hf_sub [1, 2, 0] rfl (j_X9_isWord_20 x0 x1 0)
  · refine hf_iconst (pc := 16) dX9_isWord_16 ?_
    exact hf_Jret (pc := 17) (r := 0) ⟨dX9_isWord_17, Or.inl rfl⟩ (fun _ => rfl)
/-! Token.readWord()V -/
def M_X9_readWord : hf_D := (yX9_readWord, cX9_readWord, 2, none, 5, 107)
def f_X9_readWord_54 (rec_32 : Int → hf_M Int) (x0 x1 : Int) : hf_M Int :=
  hf_bd (hf_ret (x1 + 1)) (fun x1_54 => rec_32 x1_54)
def B_X9_readWord_32 (x0 : Int) (rec_32 : Int → hf_M Int) (x1 : Int) : hf_M Int :=
  hf_cb x1 20 (20 < x1) (hf_ret 0) (hf_bd (f_X9_wordOf x1) (fun v40 => hf_bd (hf_ob 9 x0 (f_X9_isWord x0 v40)) (fun v43 => hf_cz v43 (v43 = 0) (f_X9_readWord_54 rec_32 x0 x1) (hf_bd (hf_pf 9 3 x0 x1) (fun _ => f_X9_readWord_54 rec_32 x0 x1)))))
def f_X9_readWord_32 (x0 x1 : Int) : hf_M Int := hf_fx (fun rec s => B_X9_readWord_32 x0 rec s) hf_N x1
def B_X9_readWord_0 (x0 : Int) (rec_0 : Unit → hf_M Int) : hf_M Int :=
  hf_bd (hf_gf 9 2 x0) (fun v2 => hf_bd (hf_ob 9 x0 (f_X9_isLetterAt x0 v2)) (fun v5 => hf_cz v5 (v5 = 0) (hf_bd (hf_pf 9 3 x0 1) (fun _ => f_X9_readWord_32 x0 6)) (hf_bd (hf_gf 9 2 x0) (fun v13 => hf_bd (hf_pf 9 2 x0 (v13 + 1)) (fun _ => rec_0 ())))))
def f_X9_readWord_0 (x0 : Int) : hf_M Int := hf_fx (fun rec s => B_X9_readWord_0 x0 rec) hf_N ()
def f_X9_readWord (x0 : Int) : hf_M Int :=
  f_X9_readWord_0 x0
theorem cal_X9_readWord : hf_cv M_X9_readWord 9 0 := ⟨⟨ii_X9, kc_X9_readWord, by decide, by decide, by decide +kernel⟩, ki_X9_readWord, kv_X9_readWord, _, rfl, rfl⟩
set_option maxRecDepth 20000 in
theorem j_X9_readWord_54 (x0 x1 : Int) (rec_32 : Int → hf_M Int) (hrec_32 : ∀ s : Int, hf_J M_X9_readWord 32 [(0, 2, x0), (1, 0, s)] [] (rec_32 s)) : hf_J M_X9_readWord 54 [(0, 2, x0), (1, 0, x1)] [] (f_X9_readWord_54 rec_32 x0 x1) := by
  refine hf_iincB (pc := 54) (fun y => [(1, 0, y), (0, 2, x0)]) (q := 1) rfl (by decide) (fun _ => rfl) dX9_readWord_54 (fun x1_54 => ?_)
  refine hf_goto (pc := 57) 32 dX9_readWord_57 rfl ?_
  exact hf_sub [1, 0] rfl (hrec_32 x1_54)
set_option maxRecDepth 20000 in
theorem jb_X9_readWord_32 (x0 : Int) (rec_32 : Int → hf_M Int) (hrec_32 : ∀ s : Int, hf_J M_X9_readWord 32 [(0, 2, x0), (1, 0, s)] [] (rec_32 s)) (x1 : Int) : hf_J M_X9_readWord 32 [(0, 2, x0), (1, 0, x1)] [] (B_X9_readWord_32 x0 rec_32 x1) := by
  refine hf_ild_n (pc := 32) 1 rfl rfl dX9_readWord_32 ?_
  refine hf_bipush (pc := 33) dX9_readWord_33 (by decide) ?_
  refine hf_icmp_gt (pc := 35) 60 dX9_readWord_35 rfl ?_ ?_
  · exact hf_Jret (pc := 60) dX9_readWord_60 (fun _ => rfl)
  · refine hf_ald_n (pc := 38) 0 rfl rfl dX9_readWord_38 ?_
    refine hf_ild_n (pc := 39) 1 rfl rfl dX9_readWord_39 ?_
    refine hf_cS (pc := 40) (N := M_X9_wordOf) (ts := [0]) (vs := [x1]) (st := [(2, x0)]) (fun r => [(2, r), (2, x0)]) (c_X9_wordOf x1) cal_X9_wordOf ml_X9_51 ⟨hf_le rfl, hf_le rfl⟩ (hf_le rfl) ⟨rfl, rfl⟩ rfl dX9_readWord_40 (fun _ => rfl) (fun v40 => ?_)
    refine hf_cV (pc := 43) (N := M_X9_isWord) (ts := [2]) (vs := [v40]) (st := []) (fun r => [(0, r)]) (c_X9_isWord x0 v40) cal_X9_isWord ml_X9_55 ⟨hf_le rfl, hf_le rfl⟩ (hf_le rfl) ⟨rfl, rfl⟩ rfl dX9_readWord_43 (fun _ => rfl) (fun v43 => ?_)
    refine hf_if_eq (pc := 46) 54 dX9_readWord_46 rfl ?_ ?_
    · exact hf_sub [0, 1] rfl (j_X9_readWord_54 x0 x1 rec_32 hrec_32)
    · refine hf_ald_n (pc := 49) 0 rfl rfl dX9_readWord_49 ?_
      refine hf_ild_n (pc := 50) 1 rfl rfl dX9_readWord_50 ?_
      refine hf_putf (pc := 51) fl_X9_20 trivial dX9_readWord_51 ?_
      exact hf_sub [0, 1] rfl (j_X9_readWord_54 x0 x1 rec_32 hrec_32)
set_option maxRecDepth 20000 in
theorem j_X9_readWord_32 (x0 x1 : Int) : hf_J M_X9_readWord 32 [(0, 2, x0), (1, 0, x1)] [] (f_X9_readWord_32 x0 x1) :=
  hf_Jfx (L := fun s => [(0, 2, x0), (1, 0, s)]) (fun rec hrec s => jb_X9_readWord_32 x0 rec hrec s) hf_N x1
set_option maxRecDepth 20000 in
theorem jb_X9_readWord_0 (x0 : Int) (rec_0 : Unit → hf_M Int) (hrec_0 : ∀ s : Unit, hf_J M_X9_readWord 0 [(0, 2, x0)] [] (rec_0 s)) : hf_J M_X9_readWord 0 [(0, 2, x0)] [] (B_X9_readWord_0 x0 rec_0) := by
  refine hf_ald_n (pc := 0) 0 rfl rfl dX9_readWord_0 ?_
  refine hf_ald_n (pc := 1) 0 rfl rfl dX9_readWord_1 ?_
  refine hf_getf (pc := 2) fl_X9_17 dX9_readWord_2 (fun v2 => ?_)
  refine hf_cV (pc := 5) (N := M_X9_isLetterAt) (ts := [0]) (vs := [v2]) (st := []) (fun r => [(0, r)]) (c_X9_isLetterAt x0 v2) cal_X9_isLetterAt ml_X9_42 ⟨hf_le rfl, hf_le rfl⟩ (hf_le rfl) ⟨rfl, rfl⟩ rfl dX9_readWord_5 (fun _ => rfl) (fun v5 => ?_)
  refine hf_if_eq (pc := 8) 24 dX9_readWord_8 rfl ?_ ?_
  · refine hf_ald_n (pc := 24) 0 rfl rfl dX9_readWord_24 ?_
    refine hf_iconst (pc := 25) dX9_readWord_25 ?_
    refine hf_putf (pc := 26) fl_X9_20 trivial dX9_readWord_26 ?_
    refine hf_bipush (pc := 29) dX9_readWord_29 (by decide) ?_
    refine hf_ist_n (pc := 31) (lv' := [(1, 0, 6), (0, 2, x0)]) rfl (by decide) rfl dX9_readWord_31 ?_
    exact hf_sub [1, 0] rfl (j_X9_readWord_32 x0 6)
  · refine hf_ald_n (pc := 11) 0 rfl rfl dX9_readWord_11 ?_
    refine hf_dup (pc := 12) (by decide) dX9_readWord_12 ?_
    refine hf_getf (pc := 13) fl_X9_17 dX9_readWord_13 (fun v13 => ?_)
    refine hf_iconst (pc := 16) dX9_readWord_16 ?_
    refine hf_iadd (pc := 17) dX9_readWord_17 ?_
    refine hf_putf (pc := 18) fl_X9_17 trivial dX9_readWord_18 ?_
    refine hf_goto (pc := 21) 0 dX9_readWord_21 rfl ?_
    exact hf_sub [0] rfl (hrec_0 ())
set_option maxRecDepth 20000 in
theorem j_X9_readWord_0 (x0 : Int) : hf_J M_X9_readWord 0 [(0, 2, x0)] [] (f_X9_readWord_0 x0) :=
  hf_Jfx (L := fun s => [(0, 2, x0)]) (fun rec hrec s => jb_X9_readWord_0 x0 rec hrec) hf_N ()
set_option maxRecDepth 20000 in
theorem c_X9_readWord (x0 : Int) : hf_Met M_X9_readWord [2] [x0] (f_X9_readWord x0) := by
  refine hf_met rfl (by decide) (by decide) (by decide) ?_
  show hf_J M_X9_readWord 0 [(0, 2, x0)] [] _
  exact hf_sub [0] rfl (j_X9_readWord_0 x0)
/-! Token.advance()V -/
def M_X9_advance : hf_D := (yX9_advance, cX9_advance, 1, none, 6, 128)
def f_X9_advance_39 (rec_0 : Unit → hf_M Int) (x0 : Int) : hf_M Int :=
  hf_bd (hf_gf 9 2 x0) (fun v41 => hf_bd (hf_pf 9 2 x0 (v41 + 1)) (fun _ => rec_0 ()))
def f_X9_advance_52 (x0 : Int) : hf_M Int :=
  hf_bd (hf_gf 9 2 x0) (fun v54 => hf_bd (hf_pf 9 4 x0 v54) (fun _ => hf_bd (hf_pf 9 5 x0 0) (fun _ => hf_bd (hf_gf 9 2 x0) (fun v66 => hf_bd (hf_gf 9 1 x0) (fun v70 => hf_cb v66 v70 (v66 < v70) (hf_bd (hf_gf 9 2 x0) (fun v86 => hf_bd (hf_ob 9 x0 (f_X9_isDigitAt x0 v86)) (fun v89 => hf_cz v89 (v89 = 0) (hf_bd (hf_gf 9 2 x0) (fun v104 => hf_bd (hf_ob 9 x0 (f_X9_isLetterAt x0 v104)) (fun v107 => hf_cz v107 (v107 = 0) (hf_bd (hf_ob 9 x0 (f_X9_readSign x0)) (fun _ => hf_ret 0)) (hf_bd (hf_ob 9 x0 (f_X9_readWord x0)) (fun _ => hf_ret 0))))) (hf_bd (hf_ob 9 x0 (f_X9_readNumber x0)) (fun _ => hf_ret 0))))) (hf_bd (hf_pf 9 3 x0 0) (fun _ => hf_ret 0)))))))
def B_X9_advance_0 (x0 : Int) (rec_0 : Unit → hf_M Int) : hf_M Int :=
  hf_bd (hf_gf 9 2 x0) (fun v1 => hf_bd (hf_gf 9 1 x0) (fun v5 => hf_cb v1 v5 (v5 ≤ v1) (f_X9_advance_52 x0) (hf_bd (hf_gf 9 0 x0) (fun v12 => hf_bd (hf_gf 9 2 x0) (fun v16 => hf_bd (hf_al 20 v12 v16) (fun v19 => hf_cb v19 10 (v19 = 10) (f_X9_advance_39 rec_0 x0) (hf_bd (hf_gf 9 0 x0) (fun v26 => hf_bd (hf_gf 9 2 x0) (fun v30 => hf_bd (hf_al 20 v26 v30) (fun v33 => hf_cb v33 32 (¬ v33 = 32) (f_X9_advance_52 x0) (f_X9_advance_39 rec_0 x0)))))))))))
def f_X9_advance_0 (x0 : Int) : hf_M Int := hf_fx (fun rec s => B_X9_advance_0 x0 rec) hf_N ()
def f_X9_advance (x0 : Int) : hf_M Int :=
  f_X9_advance_0 x0
theorem cal_X9_advance : hf_cv M_X9_advance 9 0 := ⟨⟨ii_X9, kc_X9_advance, by decide, by decide, by decide +kernel⟩, ki_X9_advance, kv_X9_advance, _, rfl, rfl⟩
set_option maxRecDepth 20000 in
theorem j_X9_advance_39 (x0 : Int) (rec_0 : Unit → hf_M Int) (hrec_0 : ∀ s : Unit, hf_J M_X9_advance 0 [(0, 2, x0)] [] (rec_0 s)) : hf_J M_X9_advance 39 [(0, 2, x0)] [] (f_X9_advance_39 rec_0 x0) := by
  refine hf_ald_n (pc := 39) 0 rfl rfl dX9_advance_39 ?_
  refine hf_dup (pc := 40) (by decide) dX9_advance_40 ?_
  refine hf_getf (pc := 41) fl_X9_17 dX9_advance_41 (fun v41 => ?_)
  refine hf_iconst (pc := 44) dX9_advance_44 ?_
  refine hf_iadd (pc := 45) dX9_advance_45 ?_
  refine hf_putf (pc := 46) fl_X9_17 trivial dX9_advance_46 ?_
  refine hf_goto (pc := 49) 0 dX9_advance_49 rfl ?_
  exact hf_sub [0] rfl (hrec_0 ())
set_option maxRecDepth 20000 in
theorem j_X9_advance_52 (x0 : Int) : hf_J M_X9_advance 52 [(0, 2, x0)] [] (f_X9_advance_52 x0) := by
  refine hf_ald_n (pc := 52) 0 rfl rfl dX9_advance_52 ?_
  refine hf_ald_n (pc := 53) 0 rfl rfl dX9_advance_53 ?_
  refine hf_getf (pc := 54) fl_X9_17 dX9_advance_54 (fun v54 => ?_)
  refine hf_putf (pc := 57) fl_X9_23 trivial dX9_advance_57 ?_
  refine hf_ald_n (pc := 60) 0 rfl rfl dX9_advance_60 ?_
  refine hf_iconst (pc := 61) dX9_advance_61 ?_
  refine hf_putf (pc := 62) fl_X9_26 trivial dX9_advance_62 ?_
  refine hf_ald_n (pc := 65) 0 rfl rfl dX9_advance_65 ?_
  refine hf_getf (pc := 66) fl_X9_17 dX9_advance_66 (fun v66 => ?_)
  refine hf_ald_n (pc := 69) 0 rfl rfl dX9_advance_69 ?_
  refine hf_getf (pc := 70) fl_X9_13 dX9_advance_70 (fun v70 => ?_)
  refine hf_icmp_lt (pc := 73) 84 dX9_advance_73 rfl ?_ ?_
  · refine hf_ald_n (pc := 84) 0 rfl rfl dX9_advance_84 ?_
    refine hf_ald_n (pc := 85) 0 rfl rfl dX9_advance_85 ?_
    refine hf_getf (pc := 86) fl_X9_17 dX9_advance_86 (fun v86 => ?_)
    refine hf_cV (pc := 89) (N := M_X9_isDigitAt) (ts := [0]) (vs := [v86]) (st := []) (fun r => [(0, r)]) (c_X9_isDigitAt x0 v86) cal_X9_isDigitAt ml_X9_35 ⟨hf_le rfl, hf_le rfl⟩ (hf_le rfl) ⟨rfl, rfl⟩ rfl dX9_advance_89 (fun _ => rfl) (fun v89 => ?_)
    refine hf_if_eq (pc := 92) 102 dX9_advance_92 rfl ?_ ?_
    · refine hf_ald_n (pc := 102) 0 rfl rfl dX9_advance_102 ?_
      refine hf_ald_n (pc := 103) 0 rfl rfl dX9_advance_103 ?_
      refine hf_getf (pc := 104) fl_X9_17 dX9_advance_104 (fun v104 => ?_)
      refine hf_cV (pc := 107) (N := M_X9_isLetterAt) (ts := [0]) (vs := [v104]) (st := []) (fun r => [(0, r)]) (c_X9_isLetterAt x0 v104) cal_X9_isLetterAt ml_X9_42 ⟨hf_le rfl, hf_le rfl⟩ (hf_le rfl) ⟨rfl, rfl⟩ rfl dX9_advance_107 (fun _ => rfl) (fun v107 => ?_)
      refine hf_if_eq (pc := 110) 120 dX9_advance_110 rfl ?_ ?_
      · refine hf_ald_n (pc := 120) 0 rfl rfl dX9_advance_120 ?_
        refine hf_cV (pc := 121) (N := M_X9_readSign) (ts := []) (vs := []) (st := []) (fun r => []) (c_X9_readSign x0) cal_X9_readSign ml_X9_48 ⟨hf_le rfl, hf_le rfl⟩ (hf_le rfl) ⟨rfl, rfl⟩ rfl dX9_advance_121 (fun _ => rfl) (fun _ => ?_)
        exact hf_Jret (pc := 124) dX9_advance_124 (fun _ => rfl)
      · refine hf_ald_n (pc := 113) 0 rfl rfl dX9_advance_113 ?_
        refine hf_cV (pc := 114) (N := M_X9_readWord) (ts := []) (vs := []) (st := []) (fun r => []) (c_X9_readWord x0) cal_X9_readWord ml_X9_45 ⟨hf_le rfl, hf_le rfl⟩ (hf_le rfl) ⟨rfl, rfl⟩ rfl dX9_advance_114 (fun _ => rfl) (fun _ => ?_)
        refine hf_goto (pc := 117) 124 dX9_advance_117 rfl ?_
        exact hf_Jret (pc := 124) dX9_advance_124 (fun _ => rfl)
    · refine hf_ald_n (pc := 95) 0 rfl rfl dX9_advance_95 ?_
      refine hf_cV (pc := 96) (N := M_X9_readNumber) (ts := []) (vs := []) (st := []) (fun r => []) (c_X9_readNumber x0) cal_X9_readNumber ml_X9_39 ⟨hf_le rfl, hf_le rfl⟩ (hf_le rfl) ⟨rfl, rfl⟩ rfl dX9_advance_96 (fun _ => rfl) (fun _ => ?_)
      refine hf_goto (pc := 99) 124 dX9_advance_99 rfl ?_
      exact hf_Jret (pc := 124) dX9_advance_124 (fun _ => rfl)
  · refine hf_ald_n (pc := 76) 0 rfl rfl dX9_advance_76 ?_
    refine hf_iconst (pc := 77) dX9_advance_77 ?_
    refine hf_putf (pc := 78) fl_X9_20 trivial dX9_advance_78 ?_
    refine hf_goto (pc := 81) 124 dX9_advance_81 rfl ?_
    exact hf_Jret (pc := 124) dX9_advance_124 (fun _ => rfl)
set_option maxRecDepth 20000 in
theorem jb_X9_advance_0 (x0 : Int) (rec_0 : Unit → hf_M Int) (hrec_0 : ∀ s : Unit, hf_J M_X9_advance 0 [(0, 2, x0)] [] (rec_0 s)) : hf_J M_X9_advance 0 [(0, 2, x0)] [] (B_X9_advance_0 x0 rec_0) := by
  refine hf_ald_n (pc := 0) 0 rfl rfl dX9_advance_0 ?_
  refine hf_getf (pc := 1) fl_X9_17 dX9_advance_1 (fun v1 => ?_)
  refine hf_ald_n (pc := 4) 0 rfl rfl dX9_advance_4 ?_
  refine hf_getf (pc := 5) fl_X9_13 dX9_advance_5 (fun v5 => ?_)
  refine hf_icmp_ge (pc := 8) 52 dX9_advance_8 rfl ?_ ?_
  · exact hf_sub [0] rfl (j_X9_advance_52 x0)
  · refine hf_ald_n (pc := 11) 0 rfl rfl dX9_advance_11 ?_
    refine hf_getf (pc := 12) fl_X9_7 dX9_advance_12 (fun v12 => ?_)
    refine hf_ald_n (pc := 15) 0 rfl rfl dX9_advance_15 ?_
    refine hf_getf (pc := 16) fl_X9_17 dX9_advance_16 (fun v16 => ?_)
    refine hf_iald (pc := 19) dX9_advance_19 (fun v19 => ?_)
    refine hf_bipush (pc := 20) dX9_advance_20 (by decide) ?_
    refine hf_icmp_eq (pc := 22) 39 dX9_advance_22 rfl ?_ ?_
    · exact hf_sub [0] rfl (j_X9_advance_39 x0 rec_0 hrec_0)
    · refine hf_ald_n (pc := 25) 0 rfl rfl dX9_advance_25 ?_
      refine hf_getf (pc := 26) fl_X9_7 dX9_advance_26 (fun v26 => ?_)
      refine hf_ald_n (pc := 29) 0 rfl rfl dX9_advance_29 ?_
      refine hf_getf (pc := 30) fl_X9_17 dX9_advance_30 (fun v30 => ?_)
      refine hf_iald (pc := 33) dX9_advance_33 (fun v33 => ?_)
      refine hf_bipush (pc := 34) dX9_advance_34 (by decide) ?_
      refine hf_icmp_ne (pc := 36) 52 dX9_advance_36 rfl ?_ ?_
      · exact hf_sub [0] rfl (j_X9_advance_52 x0)
      · exact hf_sub [0] rfl (j_X9_advance_39 x0 rec_0 hrec_0)
set_option maxRecDepth 20000 in
theorem j_X9_advance_0 (x0 : Int) : hf_J M_X9_advance 0 [(0, 2, x0)] [] (f_X9_advance_0 x0) :=
  hf_Jfx (L := fun s => [(0, 2, x0)]) (fun rec hrec s => jb_X9_advance_0 x0 rec hrec) hf_N ()
set_option maxRecDepth 20000 in
theorem c_X9_advance (x0 : Int) : hf_Met M_X9_advance [2] [x0] (f_X9_advance x0) := by
  refine hf_met rfl (by decide) (by decide) (by decide) ?_
  show hf_J M_X9_advance 0 [(0, 2, x0)] [] _
  exact hf_sub [0] rfl (j_X9_advance_0 x0)
/-! PlanReader.read([IILHighFall$Plan;)V -/
def M_X5_read : hf_D := (yX5_read, cX5_read, 5, none, 7, 148)
def f_X5_read_115 (x0 : Int) : hf_M Int :=
  hf_bd (hf_gf 5 1 x0) (fun v116 => hf_bd (hf_gf 5 4 x0) (fun v120 => hf_bd (hf_pf 4 1 v116 v120) (fun _ => hf_ret 0)))
def B_X5_read_49 (x0 x2 : Int) (rec_49 : Int → hf_M Int) (x4 : Int) : hf_M Int :=
  hf_cb x4 x2 (x2 < x4) (f_X5_read_115 x0) (hf_bd (hf_gf 5 0 x0) (fun v56 => hf_bd (hf_ob 9 v56 (f_X9_advance v56)) (fun _ => hf_bd (hf_gf 5 0 x0) (fun v65 => hf_bd (hf_gf 9 3 v65) (fun v68 => hf_bd (hf_ob 5 x0 (f_X5_take x0 v68)) (fun v71 => hf_bd (hf_pf 5 11 x0 v71) (fun _ => hf_bd (hf_gf 5 11 x0) (fun v78 => hf_cz v78 (v78 = 0) (hf_bd (hf_gf 5 0 x0) (fun v97 => hf_bd (hf_gf 9 3 v97) (fun v100 => hf_cz v100 (¬ v100 = 0) (hf_bd (hf_ret (x4 + 1)) (fun x4_109 => rec_49 x4_109)) (f_X5_read_115 x0)))) (hf_bd (hf_gf 5 0 x0) (fun v86 => hf_bd (hf_gf 9 4 v86) (fun v89 => hf_bd (hf_pf 5 12 x0 v89) (fun _ => hf_ret 0))))))))))))
def f_X5_read_49 (x0 x2 x4 : Int) : hf_M Int := hf_fx (fun rec s => B_X5_read_49 x0 x2 rec s) hf_N x4
def f_X5_read (x0 x1 x2 x3 : Int) : hf_M Int :=
  hf_bd (hf_gf 5 0 x0) (fun v1 => hf_bd (hf_ob 9 v1 (f_X9_open v1 x1 x2)) (fun _ => hf_bd (hf_pf 5 1 x0 x3) (fun _ => hf_bd (hf_gf 5 1 x0) (fun v15 => hf_bd (hf_ob 4 v15 (f_X4_clear v15)) (fun _ => hf_bd (hf_pf 5 6 x0 0) (fun _ => hf_bd (hf_pf 5 4 x0 0) (fun _ => hf_bd (hf_pf 5 5 x0 0) (fun _ => hf_bd (hf_pf 5 11 x0 0) (fun _ => hf_bd (hf_pf 5 12 x0 (-1)) (fun _ => f_X5_read_49 x0 x2 0))))))))))
theorem cal_X5_read : hf_cv M_X5_read 5 3 := ⟨⟨ii_X5, kc_X5_read, by decide, by decide, by decide +kernel⟩, ki_X5_read, kv_X5_read, _, rfl, rfl⟩
set_option maxRecDepth 20000 in
theorem j_X5_read_115 (x0 : Int) : hf_J M_X5_read 115 [(0, 2, x0)] [] (f_X5_read_115 x0) := by
  refine hf_ald_n (pc := 115) 0 rfl rfl dX5_read_115 ?_
  refine hf_getf (pc := 116) fl_X5_21 dX5_read_116 (fun v116 => ?_)
  refine hf_ald_n (pc := 119) 0 rfl rfl dX5_read_119 ?_
  refine hf_getf (pc := 120) fl_X5_33 dX5_read_120 (fun v120 => ?_)
  refine hf_putf (pc := 123) fl_X5_79 trivial dX5_read_123 ?_
  exact hf_Jret (pc := 126) dX5_read_126 (fun _ => rfl)
set_option maxRecDepth 20000 in
theorem jb_X5_read_49 (x0 x2 : Int) (rec_49 : Int → hf_M Int) (hrec_49 : ∀ s : Int, hf_J M_X5_read 49 [(0, 2, x0), (2, 0, x2), (4, 0, s)] [] (rec_49 s)) (x4 : Int) : hf_J M_X5_read 49 [(0, 2, x0), (2, 0, x2), (4, 0, x4)] [] (B_X5_read_49 x0 x2 rec_49 x4) := by
  refine hf_ild (pc := 49) 2 rfl dX5_read_49 ?_
  refine hf_ild_n (pc := 51) 1 rfl rfl dX5_read_51 ?_
  refine hf_icmp_gt (pc := 52) 115 dX5_read_52 rfl ?_ ?_
  · exact hf_sub [0] rfl (j_X5_read_115 x0)
  · refine hf_ald_n (pc := 55) 0 rfl rfl dX5_read_55 ?_
    refine hf_getf (pc := 56) fl_X5_12 dX5_read_56 (fun v56 => ?_)
    refine hf_cV (pc := 59) (N := M_X9_advance) (ts := []) (vs := []) (st := []) (fun r => []) (c_X9_advance v56) cal_X9_advance ml_X5_68 ⟨hf_le rfl, hf_le rfl⟩ (hf_le rfl) ⟨rfl, rfl⟩ rfl dX5_read_59 (fun _ => rfl) (fun _ => ?_)
    refine hf_ald_n (pc := 62) 0 rfl rfl dX5_read_62 ?_
    refine hf_ald_n (pc := 63) 0 rfl rfl dX5_read_63 ?_
    refine hf_ald_n (pc := 64) 0 rfl rfl dX5_read_64 ?_
    refine hf_getf (pc := 65) fl_X5_12 dX5_read_65 (fun v65 => ?_)
    refine hf_getf (pc := 68) fl_X5_71 dX5_read_68 (fun v68 => ?_)
    refine hf_cV (pc := 71) (N := M_X5_take) (ts := [0]) (vs := [v68]) (st := [(2, x0)]) (fun r => [(0, r), (2, x0)]) (c_X5_take x0 v68) cal_X5_take ml_X5_74 ⟨hf_le rfl, hf_le rfl⟩ (hf_le rfl) ⟨rfl, rfl⟩ rfl dX5_read_71 (fun _ => rfl) (fun v71 => ?_)
    refine hf_putf (pc := 74) fl_X5_56 trivial dX5_read_74 ?_
    refine hf_ald_n (pc := 77) 0 rfl rfl dX5_read_77 ?_
    refine hf_getf (pc := 78) fl_X5_56 dX5_read_78 (fun v78 => ?_)
    refine hf_if_eq (pc := 81) 96 dX5_read_81 rfl ?_ ?_
    · refine hf_ald_n (pc := 96) 0 rfl rfl dX5_read_96 ?_
      refine hf_getf (pc := 97) fl_X5_12 dX5_read_97 (fun v97 => ?_)
      refine hf_getf (pc := 100) fl_X5_71 dX5_read_100 (fun v100 => ?_)
      refine hf_if_ne (pc := 103) 109 dX5_read_103 rfl ?_ ?_
      · refine hf_iincB (pc := 109) (fun y => [(4, 0, y), (0, 2, x0), (2, 0, x2)]) (q := 2) rfl (by decide) (fun _ => rfl) dX5_read_109 (fun x4_109 => ?_)
        refine hf_goto (pc := 112) 49 dX5_read_112 rfl ?_
        exact hf_sub [1, 2, 0] rfl (hrec_49 x4_109)
      · refine hf_goto (pc := 106) 115 dX5_read_106 rfl ?_
        exact hf_sub [0] rfl (j_X5_read_115 x0)
    · refine hf_ald_n (pc := 84) 0 rfl rfl dX5_read_84 ?_
      refine hf_ald_n (pc := 85) 0 rfl rfl dX5_read_85 ?_
      refine hf_getf (pc := 86) fl_X5_12 dX5_read_86 (fun v86 => ?_)
      refine hf_getf (pc := 89) fl_X5_78 dX5_read_89 (fun v89 => ?_)
      refine hf_putf (pc := 92) fl_X5_59 trivial dX5_read_92 ?_
      exact hf_Jret (pc := 95) dX5_read_95 (fun _ => rfl)
set_option maxRecDepth 20000 in
theorem j_X5_read_49 (x0 x2 x4 : Int) : hf_J M_X5_read 49 [(0, 2, x0), (2, 0, x2), (4, 0, x4)] [] (f_X5_read_49 x0 x2 x4) :=
  hf_Jfx (L := fun s => [(0, 2, x0), (2, 0, x2), (4, 0, s)]) (fun rec hrec s => jb_X5_read_49 x0 x2 rec hrec s) hf_N x4
set_option maxRecDepth 20000 in
theorem c_X5_read (x0 x1 x2 x3 : Int) : hf_Met M_X5_read [2, 2, 0, 2] [x0, x1, x2, x3] (f_X5_read x0 x1 x2 x3) := by
  refine hf_met rfl (by decide) (by decide) (by decide) ?_
  show hf_J M_X5_read 0 [(0, 2, x0), (1, 2, x1), (2, 0, x2), (3, 2, x3)] [] _
  refine hf_ald_n (pc := 0) 0 rfl rfl dX5_read_0 ?_
  refine hf_getf (pc := 1) fl_X5_12 dX5_read_1 (fun v1 => ?_)
  refine hf_ald_n (pc := 4) 1 rfl rfl dX5_read_4 ?_
  refine hf_ild_n (pc := 5) 2 rfl rfl dX5_read_5 ?_
  refine hf_cV (pc := 6) (N := M_X9_open) (ts := [2, 0]) (vs := [x1, x2]) (st := []) (fun r => []) (c_X9_open v1 x1 x2) cal_X9_open ml_X5_62 ⟨hf_le rfl, hf_le rfl⟩ (hf_le rfl) ⟨rfl, rfl⟩ rfl dX5_read_6 (fun _ => rfl) (fun _ => ?_)
  refine hf_ald_n (pc := 9) 0 rfl rfl dX5_read_9 ?_
  refine hf_ald_n (pc := 10) 3 rfl rfl dX5_read_10 ?_
  refine hf_putf (pc := 11) fl_X5_21 trivial dX5_read_11 ?_
  refine hf_ald_n (pc := 14) 0 rfl rfl dX5_read_14 ?_
  refine hf_getf (pc := 15) fl_X5_21 dX5_read_15 (fun v15 => ?_)
  refine hf_cV (pc := 18) (N := M_X4_clear) (ts := []) (vs := []) (st := []) (fun r => []) (c_X4_clear v15) cal_X4_clear ml_X5_65 ⟨hf_le rfl, hf_le rfl⟩ (hf_le rfl) ⟨rfl, rfl⟩ rfl dX5_read_18 (fun _ => rfl) (fun _ => ?_)
  refine hf_ald_n (pc := 21) 0 rfl rfl dX5_read_21 ?_
  refine hf_iconst (pc := 22) dX5_read_22 ?_
  refine hf_putf (pc := 23) fl_X5_39 trivial dX5_read_23 ?_
  refine hf_ald_n (pc := 26) 0 rfl rfl dX5_read_26 ?_
  refine hf_iconst (pc := 27) dX5_read_27 ?_
  refine hf_putf (pc := 28) fl_X5_33 trivial dX5_read_28 ?_
  refine hf_ald_n (pc := 31) 0 rfl rfl dX5_read_31 ?_
  refine hf_iconst (pc := 32) dX5_read_32 ?_
  refine hf_putf (pc := 33) fl_X5_36 trivial dX5_read_33 ?_
  refine hf_ald_n (pc := 36) 0 rfl rfl dX5_read_36 ?_
  refine hf_iconst (pc := 37) dX5_read_37 ?_
  refine hf_putf (pc := 38) fl_X5_56 trivial dX5_read_38 ?_
  refine hf_ald_n (pc := 41) 0 rfl rfl dX5_read_41 ?_
  refine hf_iconst (pc := 42) dX5_read_42 ?_
  refine hf_putf (pc := 43) fl_X5_59 trivial dX5_read_43 ?_
  refine hf_iconst (pc := 46) dX5_read_46 ?_
  refine hf_ist (pc := 47) (lv' := [(4, 0, 0), (0, 2, x0), (1, 2, x1), (2, 0, x2), (3, 2, x3)]) (by decide) rfl dX5_read_47 ?_
  exact hf_sub [1, 3, 0] rfl (j_X5_read_49 x0 x2 0)
/-! LieTable.fewestFalls(II)I -/
def M_X2_fewestFalls : hf_D := (yX2_fewestFalls, cX2_fewestFalls, 5, some .int, 2, 62)
def B_X2_fewestFalls_42 (x0 x4 : Int) (rec_42 : Unit → hf_M Int) : hf_M Int :=
  hf_bd (hf_gf 2 1 x0) (fun v43 => hf_cb v43 x4 (x4 < v43) (hf_bd (hf_gf 2 0 x0) (fun v83 => hf_bd (hf_al 22 v83 x4) (fun v88 => hf_ret v88))) (hf_bd (hf_gf 2 0 x0) (fun v52 => hf_bd (hf_gf 2 1 x0) (fun v56 => hf_bd (hf_gf 2 1 x0) (fun v61 => hf_bd (hf_ob 2 x0 (f_X2_fewestFrom x0 v61)) (fun v64 => hf_ck (-128 ≤ (hf_i2b v64) ∧ (hf_i2b v64) ≤ 127) (hf_bd (hf_as 22 v52 v56 (hf_i2b v64)) (fun _ => hf_bd (hf_gf 2 1 x0) (fun v71 => hf_bd (hf_pf 2 1 x0 (v71 + 1)) (fun _ => rec_42 ()))))))))))
def f_X2_fewestFalls_42 (x0 x4 : Int) : hf_M Int := hf_fx (fun rec s => B_X2_fewestFalls_42 x0 x4 rec) hf_N ()
def f_X2_fewestFalls_29 (x0 x2 x3 : Int) : hf_M Int :=
  hf_bd (hf_ret ((x2 + 1) * (hf_and 21845 (x3 - 1)))) (fun x4_40 => f_X2_fewestFalls_42 x0 x4_40)
def f_X2_fewestFalls (x0 x1 x2 : Int) : hf_M Int :=
  hf_bd (hf_ret (hf_shl 1 (2 * (x1 + 1)))) (fun x3_7 => hf_bd (hf_gf 2 0 x0) (fun v9 => hf_bd (hf_an 22 v9) (fun v12 => hf_cb v12 x3_7 (x3_7 ≤ v12) (f_X2_fewestFalls_29 x0 x2 x3_7) (hf_bd (hf_gf 2 0 x0) (fun v19 => hf_bd (f_J7_copyOf_9075b v19 x3_7) (fun v23 => hf_bd (hf_pf 2 0 x0 v23) (fun _ => f_X2_fewestFalls_29 x0 x2 x3_7)))))))
theorem cal_X2_fewestFalls : hf_cv M_X2_fewestFalls 2 2 := ⟨⟨ii_X2, kc_X2_fewestFalls, by decide, by decide, by decide +kernel⟩, ki_X2_fewestFalls, kv_X2_fewestFalls, _, rfl, rfl⟩
set_option maxRecDepth 20000 in
theorem jb_X2_fewestFalls_42 (x0 x4 : Int) (rec_42 : Unit → hf_M Int) (hrec_42 : ∀ s : Unit, hf_J M_X2_fewestFalls 42 [(0, 2, x0), (4, 0, x4)] [] (rec_42 s)) : hf_J M_X2_fewestFalls 42 [(0, 2, x0), (4, 0, x4)] [] (B_X2_fewestFalls_42 x0 x4 rec_42) := by
  refine hf_ald_n (pc := 42) 0 rfl rfl dX2_fewestFalls_42 ?_
  refine hf_getf (pc := 43) fl_X2_15 dX2_fewestFalls_43 (fun v43 => ?_)
  refine hf_ild (pc := 46) 1 rfl dX2_fewestFalls_46 ?_
  refine hf_icmp_gt (pc := 48) 82 dX2_fewestFalls_48 rfl ?_ ?_
  · refine hf_ald_n (pc := 82) 0 rfl rfl dX2_fewestFalls_82 ?_
    refine hf_getf (pc := 83) fl_X2_9 dX2_fewestFalls_83 (fun v83 => ?_)
    refine hf_ild (pc := 86) 1 rfl dX2_fewestFalls_86 ?_
    refine hf_bald (pc := 88) dX2_fewestFalls_88 (fun v88 => ?_)
    exact hf_Jret (pc := 89) dX2_fewestFalls_89 (fun _ => rfl)
  · refine hf_ald_n (pc := 51) 0 rfl rfl dX2_fewestFalls_51 ?_
    refine hf_getf (pc := 52) fl_X2_9 dX2_fewestFalls_52 (fun v52 => ?_)
    refine hf_ald_n (pc := 55) 0 rfl rfl dX2_fewestFalls_55 ?_
    refine hf_getf (pc := 56) fl_X2_15 dX2_fewestFalls_56 (fun v56 => ?_)
    refine hf_ald_n (pc := 59) 0 rfl rfl dX2_fewestFalls_59 ?_
    refine hf_ald_n (pc := 60) 0 rfl rfl dX2_fewestFalls_60 ?_
    refine hf_getf (pc := 61) fl_X2_15 dX2_fewestFalls_61 (fun v61 => ?_)
    refine hf_cV (pc := 64) (N := M_X2_fewestFrom) (ts := [0]) (vs := [v61]) (st := [(0, v56), (2, v52)]) (fun r => [(0, r), (0, v56), (2, v52)]) (c_X2_fewestFrom x0 v61) cal_X2_fewestFrom ml_X2_25 ⟨hf_le rfl, hf_le rfl⟩ (hf_le rfl) ⟨rfl, rfl⟩ rfl dX2_fewestFalls_64 (fun _ => rfl) (fun v64 => ?_)
    refine hf_ii2b (pc := 67) dX2_fewestFalls_67 ?_
    refine hf_Jck (fun hz => ?_)
    refine hf_bast (pc := 68) hz dX2_fewestFalls_68 ?_
    refine hf_ald_n (pc := 69) 0 rfl rfl dX2_fewestFalls_69 ?_
    refine hf_dup (pc := 70) (by decide) dX2_fewestFalls_70 ?_
    refine hf_getf (pc := 71) fl_X2_15 dX2_fewestFalls_71 (fun v71 => ?_)
    refine hf_iconst (pc := 74) dX2_fewestFalls_74 ?_
    refine hf_iadd (pc := 75) dX2_fewestFalls_75 ?_
    refine hf_putf (pc := 76) fl_X2_15 trivial dX2_fewestFalls_76 ?_
    refine hf_goto (pc := 79) 42 dX2_fewestFalls_79 rfl ?_
    exact hf_sub [0, 1] rfl (hrec_42 ())
set_option maxRecDepth 20000 in
theorem j_X2_fewestFalls_42 (x0 x4 : Int) : hf_J M_X2_fewestFalls 42 [(0, 2, x0), (4, 0, x4)] [] (f_X2_fewestFalls_42 x0 x4) :=
  hf_Jfx (L := fun s => [(0, 2, x0), (4, 0, x4)]) (fun rec hrec s => jb_X2_fewestFalls_42 x0 x4 rec hrec) hf_N ()
set_option maxRecDepth 20000 in
theorem j_X2_fewestFalls_29 (x0 x2 x3 : Int) : hf_J M_X2_fewestFalls 29 [(0, 2, x0), (2, 0, x2), (3, 0, x3)] [] (f_X2_fewestFalls_29 x0 x2 x3) := by
  refine hf_ild_n (pc := 29) 1 rfl rfl dX2_fewestFalls_29 ?_
  refine hf_iconst (pc := 30) dX2_fewestFalls_30 ?_
  refine hf_iadd (pc := 31) dX2_fewestFalls_31 ?_
  refine hf_sipush (pc := 32) dX2_fewestFalls_32 (by decide) ?_
  refine hf_ild_n (pc := 35) 2 rfl rfl dX2_fewestFalls_35 ?_
  refine hf_iconst (pc := 36) dX2_fewestFalls_36 ?_
  refine hf_isub (pc := 37) dX2_fewestFalls_37 ?_
  refine hf_iand (pc := 38) dX2_fewestFalls_38 ?_
  refine hf_imul (pc := 39) dX2_fewestFalls_39 ?_
  refine hf_istB (pc := 40) (fun y => [(4, 0, y), (0, 2, x0), (2, 0, x2), (3, 0, x3)]) (by decide) (fun _ => rfl) dX2_fewestFalls_40 (fun x4_40 => ?_)
  exact hf_sub [1, 0] rfl (j_X2_fewestFalls_42 x0 x4_40)
set_option maxRecDepth 20000 in
theorem c_X2_fewestFalls (x0 x1 x2 : Int) : hf_Met M_X2_fewestFalls [2, 0, 0] [x0, x1, x2] (f_X2_fewestFalls x0 x1 x2) := by
  refine hf_met rfl (by decide) (by decide) (by decide) ?_
  show hf_J M_X2_fewestFalls 0 [(0, 2, x0), (1, 0, x1), (2, 0, x2)] [] _
  refine hf_iconst (pc := 0) dX2_fewestFalls_0 ?_
  refine hf_iconst (pc := 1) dX2_fewestFalls_1 ?_
  refine hf_ild_n (pc := 2) 1 rfl rfl dX2_fewestFalls_2 ?_
  refine hf_iconst (pc := 3) dX2_fewestFalls_3 ?_
  refine hf_iadd (pc := 4) dX2_fewestFalls_4 ?_
  refine hf_imul (pc := 5) dX2_fewestFalls_5 ?_
  refine hf_ishl (pc := 6) dX2_fewestFalls_6 ?_
  refine hf_ist_nB (pc := 7) (fun y => [(3, 0, y), (0, 2, x0), (1, 0, x1), (2, 0, x2)]) rfl (by decide) (fun _ => rfl) dX2_fewestFalls_7 (fun x3_7 => ?_)
  refine hf_ald_n (pc := 8) 1 rfl rfl dX2_fewestFalls_8 ?_
  refine hf_getf (pc := 9) fl_X2_9 dX2_fewestFalls_9 (fun v9 => ?_)
  refine hf_alen (pc := 12) 22 (by decide) (by decide) dX2_fewestFalls_12 (fun v12 => ?_)
  refine hf_ild_n (pc := 13) 0 rfl rfl dX2_fewestFalls_13 ?_
  refine hf_icmp_ge (pc := 14) 29 dX2_fewestFalls_14 rfl ?_ ?_
  · exact hf_sub [1, 3, 0] rfl (j_X2_fewestFalls_29 x0 x2 x3_7)
  · refine hf_ald_n (pc := 17) 1 rfl rfl dX2_fewestFalls_17 ?_
    refine hf_ald_n (pc := 18) 1 rfl rfl dX2_fewestFalls_18 ?_
    refine hf_getf (pc := 19) fl_X2_9 dX2_fewestFalls_19 (fun v19 => ?_)
    refine hf_ild_n (pc := 22) 0 rfl rfl dX2_fewestFalls_22 ?_
    refine hf_cS (pc := 23) (N := M_J7_copyOf_9075b) (ts := [2, 0]) (vs := [v19, x3_7]) (st := [(2, x0)]) (fun r => [(2, r), (2, x0)]) (c_J7_copyOf_9075b v19 x3_7) cal_J7_copyOf_9075b ml_X2_19 ⟨hf_le rfl, hf_le rfl⟩ (hf_le rfl) ⟨rfl, rfl⟩ rfl dX2_fewestFalls_23 (fun _ => rfl) (fun v23 => ?_)
    refine hf_putf (pc := 26) fl_X2_9 trivial dX2_fewestFalls_26 ?_
    exact hf_sub [1, 3, 0] rfl (j_X2_fewestFalls_29 x0 x2 x3_7)
