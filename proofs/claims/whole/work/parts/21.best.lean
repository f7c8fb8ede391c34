/-! BestTable.<init>()V -/
def M_X0_init : hf_D := (yX0_init, cX0_init, 1, none, 1, 20)
def f_X0_init (x0 : Int) : hf_M Int :=
  hf_ob 0 x0 (hf_bd (hf_na 24 125) (fun v7 => hf_bd (hf_pf 0 0 x0 v7) (fun _ => hf_bd (hf_na 20 125) (fun v16 => hf_bd (hf_pf 0 1 x0 v16) (fun _ => hf_bd (hf_pf 0 2 x0 0) (fun _ => hf_bd (hf_pf 0 3 x0 (-1)) (fun _ => hf_bd (hf_pf 0 4 x0 (-1)) (fun _ => hf_bd (hf_pf 0 5 x0 0) (fun _ => hf_bd (hf_pf 0 6 x0 0) (fun _ => hf_bd (hf_pf 0 7 x0 0) (fun _ => hf_bd (hf_pf 0 8 x0 0) (fun _ => hf_bd (hf_na 20 3) (fun v58 => hf_bd (hf_pf 0 9 x0 v58) (fun _ => hf_bd (hf_na 20 3) (fun v65 => hf_bd (hf_pf 0 10 x0 v65) (fun _ => hf_bd (hf_na 20 42) (fun v73 => hf_bd (hf_pf 0 11 x0 v73) (fun _ => hf_bd (hf_na 20 100) (fun v81 => hf_bd (hf_pf 0 12 x0 v81) (fun _ => hf_bd (hf_pf 0 13 x0 (-1)) (fun _ => hf_bd (hf_pf 0 14 x0 (-1)) (fun _ => hf_bd (hf_pf 0 15 x0 1000000000) (fun _ => hf_bd (hf_pf 0 16 x0 (-1)) (fun _ => hf_bd (hf_pf 0 17 x0 (-1)) (fun _ => hf_ret 0)))))))))))))))))))))))))
theorem cal_X0_init : hf_cix M_X0_init 0 := ⟨⟨ii_X0, kc_X0_init, by decide, by decide, by decide +kernel⟩, ki_X0_init, rfl⟩
set_option maxRecDepth 20000 in
theorem c_X0_init (x0 : Int) : hf_Met M_X0_init [2] [x0] (f_X0_init x0) := by
  refine hf_met rfl (by decide) (by decide) (by decide) ?_
  show hf_J M_X0_init 0 [(0, 2, x0)] [] _
  refine hf_ald_n (pc := 0) 0 rfl rfl dX0_init_0 ?_
  refine hf_objinit (pc := 1) 0 ml_X0_3 oi_in oi_co ⟨hf_le rfl, hf_le rfl⟩ dX0_init_1 ?_
  refine hf_ald_n (pc := 4) 0 rfl rfl dX0_init_4 ?_
  refine hf_bipush (pc := 5) dX0_init_5 (by decide) ?_
  refine hf_anewa0 (pc := 7) cl_X0_9 dX0_init_7 (fun v7 => ?_)
  refine hf_putfF (pc := 10) fl_X0_11 rfl (fun q hq => by cases hq; rfl) trivial dX0_init_10 ?_
  refine hf_ald_n (pc := 13) 0 rfl rfl dX0_init_13 ?_
  refine hf_bipush (pc := 14) dX0_init_14 (by decide) ?_
  refine hf_newa0 (pc := 16) (tg := 20) (by decide) (by decide) rfl ac_int dX0_init_16 (fun v16 => ?_)
  refine hf_putfF (pc := 18) fl_X0_17 rfl (fun q hq => by cases hq; rfl) trivial dX0_init_18 ?_
  refine hf_ald_n (pc := 21) 0 rfl rfl dX0_init_21 ?_
  refine hf_iconst (pc := 22) dX0_init_22 ?_
  refine hf_putf (pc := 23) fl_X0_20 trivial dX0_init_23 ?_
  refine hf_ald_n (pc := 26) 0 rfl rfl dX0_init_26 ?_
  refine hf_iconst (pc := 27) dX0_init_27 ?_
  refine hf_putf (pc := 28) fl_X0_24 trivial dX0_init_28 ?_
  refine hf_ald_n (pc := 31) 0 rfl rfl dX0_init_31 ?_
  refine hf_iconst (pc := 32) dX0_init_32 ?_
  refine hf_putf (pc := 33) fl_X0_27 trivial dX0_init_33 ?_
  refine hf_ald_n (pc := 36) 0 rfl rfl dX0_init_36 ?_
  refine hf_iconst (pc := 37) dX0_init_37 ?_
  refine hf_putf (pc := 38) fl_X0_30 trivial dX0_init_38 ?_
  refine hf_ald_n (pc := 41) 0 rfl rfl dX0_init_41 ?_
  refine hf_iconst (pc := 42) dX0_init_42 ?_
  refine hf_putf (pc := 43) fl_X0_33 (Or.inl rfl) dX0_init_43 ?_
  refine hf_ald_n (pc := 46) 0 rfl rfl dX0_init_46 ?_
  refine hf_iconst (pc := 47) dX0_init_47 ?_
  refine hf_putf (pc := 48) fl_X0_37 trivial dX0_init_48 ?_
  refine hf_ald_n (pc := 51) 0 rfl rfl dX0_init_51 ?_
  refine hf_iconst (pc := 52) dX0_init_52 ?_
  refine hf_putf (pc := 53) fl_X0_40 trivial dX0_init_53 ?_
  refine hf_ald_n (pc := 56) 0 rfl rfl dX0_init_56 ?_
  refine hf_iconst (pc := 57) dX0_init_57 ?_
  refine hf_newa0 (pc := 58) (tg := 20) (by decide) (by decide) rfl ac_int dX0_init_58 (fun v58 => ?_)
  refine hf_putfF (pc := 60) fl_X0_43 rfl (fun q hq => by cases hq; rfl) trivial dX0_init_60 ?_
  refine hf_ald_n (pc := 63) 0 rfl rfl dX0_init_63 ?_
  refine hf_iconst (pc := 64) dX0_init_64 ?_
  refine hf_newa0 (pc := 65) (tg := 20) (by decide) (by decide) rfl ac_int dX0_init_65 (fun v65 => ?_)
  refine hf_putfF (pc := 67) fl_X0_46 rfl (fun q hq => by cases hq; rfl) trivial dX0_init_67 ?_
  refine hf_ald_n (pc := 70) 0 rfl rfl dX0_init_70 ?_
  refine hf_bipush (pc := 71) dX0_init_71 (by decide) ?_
  refine hf_newa0 (pc := 73) (tg := 20) (by decide) (by decide) rfl ac_int dX0_init_73 (fun v73 => ?_)
  refine hf_putfF (pc := 75) fl_X0_49 rfl (fun q hq => by cases hq; rfl) trivial dX0_init_75 ?_
  refine hf_ald_n (pc := 78) 0 rfl rfl dX0_init_78 ?_
  refine hf_bipush (pc := 79) dX0_init_79 (by decide) ?_
  refine hf_newa0 (pc := 81) (tg := 20) (by decide) (by decide) rfl ac_int dX0_init_81 (fun v81 => ?_)
  refine hf_putfF (pc := 83) fl_X0_52 rfl (fun q hq => by cases hq; rfl) trivial dX0_init_83 ?_
  refine hf_ald_n (pc := 86) 0 rfl rfl dX0_init_86 ?_
  refine hf_iconst (pc := 87) dX0_init_87 ?_
  refine hf_putf (pc := 88) fl_X0_55 trivial dX0_init_88 ?_
  refine hf_ald_n (pc := 91) 0 rfl rfl dX0_init_91 ?_
  refine hf_iconst (pc := 92) dX0_init_92 ?_
  refine hf_putf (pc := 93) fl_X0_58 trivial dX0_init_93 ?_
  refine hf_ald_n (pc := 96) 0 rfl rfl dX0_init_96 ?_
  refine hf_ldc (pc := 97) (n := 1000000000) co_X0_61 (by decide) dX0_init_97 ?_
  refine hf_putf (pc := 99) fl_X0_62 trivial dX0_init_99 ?_
  refine hf_ald_n (pc := 102) 0 rfl rfl dX0_init_102 ?_
  refine hf_iconst (pc := 103) dX0_init_103 ?_
  refine hf_putf (pc := 104) fl_X0_65 trivial dX0_init_104 ?_
  refine hf_ald_n (pc := 107) 0 rfl rfl dX0_init_107 ?_
  refine hf_iconst (pc := 108) dX0_init_108 ?_
  refine hf_putf (pc := 109) fl_X0_68 trivial dX0_init_109 ?_
  exact hf_Jret (pc := 112) dX0_init_112 (fun _ => rfl)
/-! BestTable.prepare(LHighFall$Stair;I)V -/
def M_X0_prepare : hf_D := (yX0_prepare, cX0_prepare, 5, none, 0, 0)
def f_X0_prepare_157 (rec_116 : Int → hf_M Int) (x0 x1 x3 x4 s0 s1 s2 : Int) : hf_M Int :=
  hf_bd (hf_as 20 s0 s1 s2) (fun _ => hf_bd (hf_ret (x4 + 1)) (fun x4_158 => rec_116 x4_158))
def B_X0_prepare_167 (x0 x1 : Int) (rec_167 : Int → hf_M Int) (x4 : Int) : hf_M Int :=
  hf_bd (hf_gf 0 5 x0) (fun v170 => hf_cb x4 v170 (v170 < x4) (hf_ret 0) (hf_bd (hf_gf 0 11 x0) (fun v177 => hf_bd (hf_gf 0 11 x0) (fun v185 => hf_bd (hf_al 20 v185 x4) (fun v190 => hf_bd (hf_gf 8 6 x1) (fun v192 => hf_bd (hf_al 20 v192 x4) (fun v197 => hf_bd (hf_as 20 v177 (x4 + 1) (v190 + v197)) (fun _ => hf_bd (hf_ret (x4 + 1)) (fun x4_200 => rec_167 x4_200)))))))))
def f_X0_prepare_167 (x0 x1 x4 : Int) : hf_M Int := hf_fx (fun rec s => B_X0_prepare_167 x0 x1 rec s) hf_N x4
def B_X0_prepare_116 (x0 x1 x3 : Int) (rec_116 : Int → hf_M Int) (x4 : Int) : hf_M Int :=
  hf_cb x4 3 (3 ≤ x4) (f_X0_prepare_167 x0 x1 0) (hf_bd (hf_gf 0 9 x0) (fun v123 => hf_bd (hf_gf 8 1 x1) (fun v129 => hf_bd (hf_al 20 v129 x4) (fun v134 => hf_bd (hf_as 20 v123 x4 v134) (fun _ => hf_bd (hf_gf 0 10 x0) (fun v137 => hf_cz x3 (x3 = 0) (f_X0_prepare_157 rec_116 x0 x1 x3 x4 v137 x4 0) (hf_bd (hf_gf 8 3 x1) (fun v147 => hf_bd (hf_al 20 v147 x4) (fun v152 => f_X0_prepare_157 rec_116 x0 x1 x3 x4 v137 x4 v152)))))))))
def f_X0_prepare_116 (x0 x1 x3 x4 : Int) : hf_M Int := hf_fx (fun rec s => B_X0_prepare_116 x0 x1 x3 rec s) hf_N x4
def f_X0_prepare_110 (x0 x1 x3 s0 s1 : Int) : hf_M Int :=
  hf_bd (hf_pf 0 8 s0 s1) (fun _ => f_X0_prepare_116 x0 x1 x3 0)
def f_X0_prepare_94 (x0 x1 x3 s0 s1 : Int) : hf_M Int :=
  hf_bd (hf_pf 0 7 s0 s1) (fun _ => hf_cz x3 (x3 = 0) (f_X0_prepare_110 x0 x1 x3 x0 0) (hf_bd (hf_gf 8 5 x1) (fun v103 => f_X0_prepare_110 x0 x1 x3 x0 v103)))
def f_X0_prepare_67 (x0 x1 x2 s0 s1 : Int) : hf_M Int :=
  hf_ck (s1 = 0 ∨ s1 = 1) (hf_bd (hf_pf 0 6 s0 s1) (fun _ => hf_ck (hf_inI x2 ∧ hf_inI 2) (hf_bd (hf_ret (if x2 < 2 then 0 else 1)) (fun w80 => hf_cz w80 (w80 = 0) (f_X0_prepare_94 x0 x1 w80 x0 1) (hf_bd (hf_gf 8 4 x1) (fun v87 => f_X0_prepare_94 x0 x1 w80 x0 v87))))))
def f_X0_prepare_20 (x0 x1 x2 : Int) : hf_M Int :=
  hf_bd (hf_pf 0 3 x0 x2) (fun _ => hf_bd (hf_gf 8 7 x1) (fun v27 => hf_bd (hf_pf 0 4 x0 v27) (fun _ => hf_bd (hf_gf 0 2 x0) (fun v35 => hf_bd (hf_pf 0 2 x0 (v35 + 1)) (fun _ => hf_bd (hf_gf 8 0 x1) (fun v45 => hf_bd (hf_pf 0 5 x0 v45) (fun _ => hf_cb x2 1 (x2 = 1) (f_X0_prepare_67 x0 x1 x2 x0 1) (hf_cb x2 3 (¬ x2 = 3) (f_X0_prepare_67 x0 x1 x2 x0 0) (f_X0_prepare_67 x0 x1 x2 x0 1)))))))))
def f_X0_prepare (x0 x1 x2 : Int) : hf_M Int :=
  hf_bd (hf_gf 0 3 x0) (fun v2 => hf_cb x2 v2 (¬ x2 = v2) (f_X0_prepare_20 x0 x1 x2) (hf_bd (hf_gf 8 7 x1) (fun v9 => hf_bd (hf_gf 0 4 x0) (fun v13 => hf_cb v9 v13 (¬ v9 = v13) (f_X0_prepare_20 x0 x1 x2) (hf_ret 0)))))
theorem cal_X0_prepare : hf_cv M_X0_prepare 0 2 := ⟨⟨ii_X0, kc_X0_prepare, by decide, by decide, by decide +kernel⟩, ki_X0_prepare, kv_X0_prepare, _, rfl, rfl⟩
set_option maxRecDepth 20000 in
theorem j_X0_prepare_157 (x0 x1 x3 x4 s0 s1 s2 : Int) (rec_116 : Int → hf_M Int) (hrec_116 : ∀ s : Int, hf_J M_X0_prepare 116 [(0, 2, x0), (1, 2, x1), (3, 0, x3), (4, 0, s)] [] (rec_116 s)) : hf_J M_X0_prepare 157 [(0, 2, x0), (1, 2, x1), (3, 0, x3), (4, 0, x4)] [(0, s2), (0, s1), (2, s0)] (f_X0_prepare_157 rec_116 x0 x1 x3 x4 s0 s1 s2) := by
  refine hf_iast (pc := 157) dX0_prepare_157 ?_
  refine hf_iincB (pc := 158) (fun y => [(4, 0, y), (0, 2, x0), (1, 2, x1), (3, 0, x3)]) (q := 3) rfl (by decide) (fun _ => rfl) dX0_prepare_158 (fun x4_158 => ?_)
  refine hf_goto (pc := 161) 116 dX0_prepare_161 rfl ?_
  exact hf_sub [1, 2, 3, 0] rfl (hrec_116 x4_158)
set_option maxRecDepth 20000 in
theorem jb_X0_prepare_167 (x0 x1 : Int) (rec_167 : Int → hf_M Int) (hrec_167 : ∀ s : Int, hf_J M_X0_prepare 167 [(0, 2, x0), (1, 2, x1), (4, 0, s)] [] (rec_167 s)) (x4 : Int) : hf_J M_X0_prepare 167 [(0, 2, x0), (1, 2, x1), (4, 0, x4)] [] (B_X0_prepare_167 x0 x1 rec_167 x4) := by
  refine hf_ild (pc := 167) 2 rfl dX0_prepare_167 ?_
  refine hf_ald_n (pc := 169) 0 rfl rfl dX0_prepare_169 ?_
  refine hf_getf (pc := 170) fl_X0_30 dX0_prepare_170 (fun v170 => ?_)
  refine hf_icmp_gt (pc := 173) 206 dX0_prepare_173 rfl ?_ ?_
  · exact hf_Jret (pc := 206) dX0_prepare_206 (fun _ => rfl)
  · refine hf_ald_n (pc := 176) 0 rfl rfl dX0_prepare_176 ?_
    refine hf_getf (pc := 177) fl_X0_49 dX0_prepare_177 (fun v177 => ?_)
    refine hf_ild (pc := 180) 2 rfl dX0_prepare_180 ?_
    refine hf_iconst (pc := 182) dX0_prepare_182 ?_
    refine hf_iadd (pc := 183) dX0_prepare_183 ?_
    refine hf_ald_n (pc := 184) 0 rfl rfl dX0_prepare_184 ?_
    refine hf_getf (pc := 185) fl_X0_49 dX0_prepare_185 (fun v185 => ?_)
    refine hf_ild (pc := 188) 2 rfl dX0_prepare_188 ?_
    refine hf_iald (pc := 190) dX0_prepare_190 (fun v190 => ?_)
    refine hf_ald_n (pc := 191) 1 rfl rfl dX0_prepare_191 ?_
    refine hf_getf (pc := 192) fl_X0_81 dX0_prepare_192 (fun v192 => ?_)
    refine hf_ild (pc := 195) 2 rfl dX0_prepare_195 ?_
    refine hf_iald (pc := 197) dX0_prepare_197 (fun v197 => ?_)
    refine hf_iadd (pc := 198) dX0_prepare_198 ?_
    refine hf_iast (pc := 199) dX0_prepare_199 ?_
    refine hf_iincB (pc := 200) (fun y => [(4, 0, y), (0, 2, x0), (1, 2, x1)]) (q := 2) rfl (by decide) (fun _ => rfl) dX0_prepare_200 (fun x4_200 => ?_)
    refine hf_goto (pc := 203) 167 dX0_prepare_203 rfl ?_
    exact hf_sub [1, 2, 0] rfl (hrec_167 x4_200)
set_option maxRecDepth 20000 in
theorem j_X0_prepare_167 (x0 x1 x4 : Int) : hf_J M_X0_prepare 167 [(0, 2, x0), (1, 2, x1), (4, 0, x4)] [] (f_X0_prepare_167 x0 x1 x4) :=
  hf_Jfx (L := fun s => [(0, 2, x0), (1, 2, x1), (4, 0, s)]) (fun rec hrec s => jb_X0_prepare_167 x0 x1 rec hrec s) hf_N x4
set_option maxRecDepth 20000 in
theorem jb_X0_prepare_116 (x0 x1 x3 : Int) (rec_116 : Int → hf_M Int) (hrec_116 : ∀ s : Int, hf_J M_X0_prepare 116 [(0, 2, x0), (1, 2, x1), (3, 0, x3), (4, 0, s)] [] (rec_116 s)) (x4 : Int) : hf_J M_X0_prepare 116 [(0, 2, x0), (1, 2, x1), (3, 0, x3), (4, 0, x4)] [] (B_X0_prepare_116 x0 x1 x3 rec_116 x4) := by
  refine hf_ild (pc := 116) 3 rfl dX0_prepare_116 ?_
  refine hf_iconst (pc := 118) dX0_prepare_118 ?_
  refine hf_icmp_ge (pc := 119) 164 dX0_prepare_119 rfl ?_ ?_
  · refine hf_iconst (pc := 164) dX0_prepare_164 ?_
    refine hf_ist (pc := 165) (lv' := [(4, 0, 0), (0, 2, x0), (1, 2, x1), (3, 0, x3)]) (by decide) rfl dX0_prepare_165 ?_
    exact hf_sub [1, 2, 0] rfl (j_X0_prepare_167 x0 x1 0)
  · refine hf_ald_n (pc := 122) 0 rfl rfl dX0_prepare_122 ?_
    refine hf_getf (pc := 123) fl_X0_43 dX0_prepare_123 (fun v123 => ?_)
    refine hf_ild (pc := 126) 3 rfl dX0_prepare_126 ?_
    refine hf_ald_n (pc := 128) 1 rfl rfl dX0_prepare_128 ?_
    refine hf_getf (pc := 129) fl_X0_79 dX0_prepare_129 (fun v129 => ?_)
    refine hf_ild (pc := 132) 3 rfl dX0_prepare_132 ?_
    refine hf_iald (pc := 134) dX0_prepare_134 (fun v134 => ?_)
    refine hf_iast (pc := 135) dX0_prepare_135 ?_
    refine hf_ald_n (pc := 136) 0 rfl rfl dX0_prepare_136 ?_
    refine hf_getf (pc := 137) fl_X0_46 dX0_prepare_137 (fun v137 => ?_)
    refine hf_ild (pc := 140) 3 rfl dX0_prepare_140 ?_
    refine hf_ild_n (pc := 142) 2 rfl rfl dX0_prepare_142 ?_
    refine hf_if_eq (pc := 143) 156 dX0_prepare_143 rfl ?_ ?_
    · refine hf_iconst (pc := 156) dX0_prepare_156 ?_
      exact hf_sub [0, 1, 2, 3] rfl (j_X0_prepare_157 x0 x1 x3 x4 v137 x4 0 rec_116 hrec_116)
    · refine hf_ald_n (pc := 146) 1 rfl rfl dX0_prepare_146 ?_
      refine hf_getf (pc := 147) fl_X0_80 dX0_prepare_147 (fun v147 => ?_)
      refine hf_ild (pc := 150) 3 rfl dX0_prepare_150 ?_
      refine hf_iald (pc := 152) dX0_prepare_152 (fun v152 => ?_)
      refine hf_goto (pc := 153) 157 dX0_prepare_153 rfl ?_
      exact hf_sub [0, 1, 2, 3] rfl (j_X0_prepare_157 x0 x1 x3 x4 v137 x4 v152 rec_116 hrec_116)
set_option maxRecDepth 20000 in
theorem j_X0_prepare_116 (x0 x1 x3 x4 : Int) : hf_J M_X0_prepare 116 [(0, 2, x0), (1, 2, x1), (3, 0, x3), (4, 0, x4)] [] (f_X0_prepare_116 x0 x1 x3 x4) :=
  hf_Jfx (L := fun s => [(0, 2, x0), (1, 2, x1), (3, 0, x3), (4, 0, s)]) (fun rec hrec s => jb_X0_prepare_116 x0 x1 x3 rec hrec s) hf_N x4
set_option maxRecDepth 20000 in
theorem j_X0_prepare_110 (x0 x1 x3 s0 s1 : Int) : hf_J M_X0_prepare 110 [(0, 2, x0), (1, 2, x1), (3, 0, x3)] [(0, s1), (2, s0)] (f_X0_prepare_110 x0 x1 x3 s0 s1) := by
  refine hf_putf (pc := 110) fl_X0_40 trivial dX0_prepare_110 ?_
  refine hf_iconst (pc := 113) dX0_prepare_113 ?_
  refine hf_ist (pc := 114) (lv' := [(4, 0, 0), (0, 2, x0), (1, 2, x1), (3, 0, x3)]) (by decide) rfl dX0_prepare_114 ?_
  exact hf_sub [1, 2, 3, 0] rfl (j_X0_prepare_116 x0 x1 x3 0)
set_option maxRecDepth 20000 in
theorem j_X0_prepare_94 (x0 x1 x3 s0 s1 : Int) : hf_J M_X0_prepare 94 [(0, 2, x0), (1, 2, x1), (3, 0, x3)] [(0, s1), (2, s0)] (f_X0_prepare_94 x0 x1 x3 s0 s1) := by
  refine hf_putf (pc := 94) fl_X0_37 trivial dX0_prepare_94 ?_
  refine hf_ald_n (pc := 97) 0 rfl rfl dX0_prepare_97 ?_
  refine hf_ild_n (pc := 98) 2 rfl rfl dX0_prepare_98 ?_
  refine hf_if_eq (pc := 99) 109 dX0_prepare_99 rfl ?_ ?_
  · refine hf_iconst (pc := 109) dX0_prepare_109 ?_
    exact hf_sub [0, 1, 2] rfl (j_X0_prepare_110 x0 x1 x3 x0 0)
  · refine hf_ald_n (pc := 102) 1 rfl rfl dX0_prepare_102 ?_
    refine hf_getf (pc := 103) fl_X0_78 dX0_prepare_103 (fun v103 => ?_)
    refine hf_goto (pc := 106) 110 dX0_prepare_106 rfl ?_
    exact hf_sub [0, 1, 2] rfl (j_X0_prepare_110 x0 x1 x3 x0 v103)
set_option maxRecDepth 20000 in
theorem j_X0_prepare_67 (x0 x1 x2 s0 s1 : Int) : hf_J M_X0_prepare 67 [(0, 2, x0), (1, 2, x1), (2, 0, x2)] [(0, s1), (2, s0)] (f_X0_prepare_67 x0 x1 x2 s0 s1) := by
  refine hf_Jck (fun hz => ?_)
  refine hf_putf (pc := 67) fl_X0_33 hz dX0_prepare_67 ?_
  refine hf_ild_n (pc := 70) 2 rfl rfl dX0_prepare_70 ?_
  refine hf_iconst (pc := 71) dX0_prepare_71 ?_
  refine hf_Jdib (pc := 72) (pcM := 80) (t := 0) (stM := []) (fun w80 => ?_) (fun a1 a2 => ?_)
  · refine hf_ist_n (pc := 80) (lv' := [(3, 0, w80), (0, 2, x0), (1, 2, x1), (2, 0, x2)]) rfl (by decide) rfl dX0_prepare_80 ?_
    refine hf_ald_n (pc := 81) 1 rfl rfl dX0_prepare_81 ?_
    refine hf_ild_n (pc := 82) 0 rfl rfl dX0_prepare_82 ?_
    refine hf_if_eq (pc := 83) 93 dX0_prepare_83 rfl ?_ ?_
    · refine hf_iconst (pc := 93) dX0_prepare_93 ?_
      exact hf_sub [1, 2, 0] rfl (j_X0_prepare_94 x0 x1 w80 x0 1)
    · refine hf_ald_n (pc := 86) 2 rfl rfl dX0_prepare_86 ?_
      refine hf_getf (pc := 87) fl_X0_77 dX0_prepare_87 (fun v87 => ?_)
      refine hf_goto (pc := 90) 94 dX0_prepare_90 rfl ?_
      exact hf_sub [1, 2, 0] rfl (j_X0_prepare_94 x0 x1 w80 x0 v87)
  · refine hf_icmp_lt (pc := 72) 79 dX0_prepare_72 rfl ?_ ?_
    · refine hf_iconst (pc := 79) dX0_prepare_79 ?_
      exact a1
    · refine hf_iconst (pc := 75) dX0_prepare_75 ?_
      refine hf_goto (pc := 76) 80 dX0_prepare_76 rfl ?_
      exact a2
set_option maxRecDepth 20000 in
theorem j_X0_prepare_20 (x0 x1 x2 : Int) : hf_J M_X0_prepare 20 [(0, 2, x0), (1, 2, x1), (2, 0, x2)] [] (f_X0_prepare_20 x0 x1 x2) := by
  refine hf_ald_n (pc := 20) 0 rfl rfl dX0_prepare_20 ?_
  refine hf_ild_n (pc := 21) 2 rfl rfl dX0_prepare_21 ?_
  refine hf_putf (pc := 22) fl_X0_24 trivial dX0_prepare_22 ?_
  refine hf_ald_n (pc := 25) 0 rfl rfl dX0_prepare_25 ?_
  refine hf_ald_n (pc := 26) 1 rfl rfl dX0_prepare_26 ?_
  refine hf_getf (pc := 27) fl_X0_71 dX0_prepare_27 (fun v27 => ?_)
  refine hf_putf (pc := 30) fl_X0_27 trivial dX0_prepare_30 ?_
  refine hf_ald_n (pc := 33) 0 rfl rfl dX0_prepare_33 ?_
  refine hf_dup (pc := 34) (by decide) dX0_prepare_34 ?_
  refine hf_getf (pc := 35) fl_X0_20 dX0_prepare_35 (fun v35 => ?_)
  refine hf_iconst (pc := 38) dX0_prepare_38 ?_
  refine hf_iadd (pc := 39) dX0_prepare_39 ?_
  refine hf_putf (pc := 40) fl_X0_20 trivial dX0_prepare_40 ?_
  refine hf_ald_n (pc := 43) 0 rfl rfl dX0_prepare_43 ?_
  refine hf_ald_n (pc := 44) 1 rfl rfl dX0_prepare_44 ?_
  refine hf_getf (pc := 45) fl_X0_76 dX0_prepare_45 (fun v45 => ?_)
  refine hf_putf (pc := 48) fl_X0_30 trivial dX0_prepare_48 ?_
  refine hf_ald_n (pc := 51) 0 rfl rfl dX0_prepare_51 ?_
  refine hf_ild_n (pc := 52) 2 rfl rfl dX0_prepare_52 ?_
  refine hf_iconst (pc := 53) dX0_prepare_53 ?_
  refine hf_icmp_eq (pc := 54) 62 dX0_prepare_54 rfl ?_ ?_
  · refine hf_iconst (pc := 62) dX0_prepare_62 ?_
    refine hf_goto (pc := 63) 67 dX0_prepare_63 rfl ?_
    exact hf_sub [0, 1, 2] rfl (j_X0_prepare_67 x0 x1 x2 x0 1)
  · refine hf_ild_n (pc := 57) 2 rfl rfl dX0_prepare_57 ?_
    refine hf_iconst (pc := 58) dX0_prepare_58 ?_
    refine hf_icmp_ne (pc := 59) 66 dX0_prepare_59 rfl ?_ ?_
    · refine hf_iconst (pc := 66) dX0_prepare_66 ?_
      exact hf_sub [0, 1, 2] rfl (j_X0_prepare_67 x0 x1 x2 x0 0)
    · refine hf_iconst (pc := 62) dX0_prepare_62 ?_
      refine hf_goto (pc := 63) 67 dX0_prepare_63 rfl ?_
      exact hf_sub [0, 1, 2] rfl (j_X0_prepare_67 x0 x1 x2 x0 1)
set_option maxRecDepth 20000 in
theorem c_X0_prepare (x0 x1 x2 : Int) : hf_Met M_X0_prepare [2, 2, 0] [x0, x1, x2] (f_X0_prepare x0 x1 x2) := by
  refine hf_met rfl (by decide) (by decide) (by decide) ?_
  show hf_J M_X0_prepare 0 [(0, 2, x0), (1, 2, x1), (2, 0, x2)] [] _
  refine hf_ild_n (pc := 0) 2 rfl rfl dX0_prepare_0 ?_
  refine hf_ald_n (pc := 1) 0 rfl rfl dX0_prepare_1 ?_
  refine hf_getf (pc := 2) fl_X0_24 dX0_prepare_2 (fun v2 => ?_)
  refine hf_icmp_ne (pc := 5) 20 dX0_prepare_5 rfl ?_ ?_
  · exact hf_sub [0, 1, 2] rfl (j_X0_prepare_20 x0 x1 x2)
  · refine hf_ald_n (pc := 8) 1 rfl rfl dX0_prepare_8 ?_
    refine hf_getf (pc := 9) fl_X0_71 dX0_prepare_9 (fun v9 => ?_)
    refine hf_ald_n (pc := 12) 0 rfl rfl dX0_prepare_12 ?_
    refine hf_getf (pc := 13) fl_X0_27 dX0_prepare_13 (fun v13 => ?_)
    refine hf_icmp_ne (pc := 16) 20 dX0_prepare_16 rfl ?_ ?_
    · exact hf_sub [0, 1, 2] rfl (j_X0_prepare_20 x0 x1 x2)
    · exact hf_Jret (pc := 19) dX0_prepare_19 (fun _ => rfl)
/-! BestTable.forgetFirst()V -/
def M_X0_forgetFirst : hf_D := (yX0_forgetFirst, cX0_forgetFirst, 1, none, 0, 0)
def f_X0_forgetFirst (x0 : Int) : hf_M Int :=
  hf_bd (hf_pf 0 16 x0 (-1)) (fun _ => hf_bd (hf_pf 0 17 x0 (-1)) (fun _ => hf_ret 0))
theorem cal_X0_forgetFirst : hf_cv M_X0_forgetFirst 0 0 := ⟨⟨ii_X0, kc_X0_forgetFirst, by decide, by decide, by decide +kernel⟩, ki_X0_forgetFirst, kv_X0_forgetFirst, _, rfl, rfl⟩
set_option maxRecDepth 20000 in
theorem c_X0_forgetFirst (x0 : Int) : hf_Met M_X0_forgetFirst [2] [x0] (f_X0_forgetFirst x0) := by
  refine hf_met rfl (by decide) (by decide) (by decide) ?_
  show hf_J M_X0_forgetFirst 0 [(0, 2, x0)] [] _
  refine hf_ald_n (pc := 0) 0 rfl rfl dX0_forgetFirst_0 ?_
  refine hf_iconst (pc := 1) dX0_forgetFirst_1 ?_
  refine hf_putf (pc := 2) fl_X0_65 trivial dX0_forgetFirst_2 ?_
  refine hf_ald_n (pc := 5) 0 rfl rfl dX0_forgetFirst_5 ?_
  refine hf_iconst (pc := 6) dX0_forgetFirst_6 ?_
  refine hf_putf (pc := 7) fl_X0_68 trivial dX0_forgetFirst_7 ?_
  exact hf_Jret (pc := 10) dX0_forgetFirst_10 (fun _ => rfl)
/-! BestTable.piecesIn(II)I -/
def M_X0_piecesIn : hf_D := (yX0_piecesIn, cX0_piecesIn, 2, some .int, 1, 20)
def f_X0_piecesIn (x0 x1 : Int) : hf_M Int :=
  hf_bd (f_X11_unitOf x1) (fun v2 => hf_bd (hf_dv x0 v2) (fun v5 => hf_bd (hf_rm v5 5) (fun v7 => hf_ret v7)))
theorem cal_X0_piecesIn : hf_csx M_X0_piecesIn 2 := ⟨⟨ii_X0, kc_X0_piecesIn, by decide, by decide, by decide +kernel⟩, ks_X0_piecesIn⟩
set_option maxRecDepth 20000 in
theorem c_X0_piecesIn (x0 x1 : Int) : hf_Met M_X0_piecesIn [0, 0] [x0, x1] (f_X0_piecesIn x0 x1) := by
  refine hf_met rfl (by decide) (by decide) (by decide) ?_
  show hf_J M_X0_piecesIn 0 [(0, 0, x0), (1, 0, x1)] [] _
  refine hf_ild_n (pc := 0) 0 rfl rfl dX0_piecesIn_0 ?_
  refine hf_ild_n (pc := 1) 1 rfl rfl dX0_piecesIn_1 ?_
  refine hf_cSN (pc := 2) (N := M_X11_unitOf) (ts := [0]) (vs := [x1]) (st := [(0, x0)]) (fun r => [(0, r), (0, x0)]) (c_X11_unitOf x1) cal_X11_unitOf mn_X0_121 ⟨hf_le rfl, hf_le rfl⟩ (hf_le rfl) ⟨rfl, rfl⟩ rfl dX0_piecesIn_2 (fun _ => rfl) (fun v2 => ?_)
  refine hf_idiv (pc := 5) dX0_piecesIn_5 (fun v5 => ?_)
  refine hf_iconst (pc := 6) dX0_piecesIn_6 ?_
  refine hf_irem (pc := 7) dX0_piecesIn_7 (fun v7 => ?_)
  exact hf_Jret (pc := 8) dX0_piecesIn_8 (fun _ => rfl)
/-! BestTable.isPartOf(II)Z -/
def M_X0_isPartOf : hf_D := (yX0_isPartOf, cX0_isPartOf, 2, some .boolean, 2, 41)
def f_X0_isPartOf (x0 x1 : Int) : hf_M Int :=
  hf_bd (f_X0_piecesIn x0 0) (fun v2 => hf_bd (f_X0_piecesIn x1 0) (fun v7 => hf_cb v2 v7 (v7 < v2) (hf_ret 0) (hf_bd (f_X0_piecesIn x0 1) (fun v15 => hf_bd (f_X0_piecesIn x1 1) (fun v20 => hf_cb v15 v20 (v20 < v15) (hf_ret 0) (hf_bd (f_X0_piecesIn x0 2) (fun v28 => hf_bd (f_X0_piecesIn x1 2) (fun v33 => hf_cb v28 v33 (v33 < v28) (hf_ret 0) (hf_ret 1)))))))))
theorem cal_X0_isPartOf : hf_csx M_X0_isPartOf 2 := ⟨⟨ii_X0, kc_X0_isPartOf, by decide, by decide, by decide +kernel⟩, ks_X0_isPartOf⟩
set_option maxRecDepth 20000 in
theorem c_X0_isPartOf (x0 x1 : Int) : hf_Met M_X0_isPartOf [0, 0] [x0, x1] (f_X0_isPartOf x0 x1) := by
  refine hf_met rfl (by decide) (by decide) (by decide) ?_
  show hf_J M_X0_isPartOf 0 [(0, 0, x0), (1, 0, x1)] [] _
  refine hf_ild_n (pc := 0) 0 rfl rfl dX0_isPartOf_0 ?_
  refine hf_iconst (pc := 1) dX0_isPartOf_1 ?_
  refine hf_cS (pc := 2) (N := M_X0_piecesIn) (ts := [0, 0]) (vs := [x0, 0]) (st := []) (fun r => [(0, r)]) (c_X0_piecesIn x0 0) cal_X0_piecesIn ml_X0_125 ⟨hf_le rfl, hf_le rfl⟩ (hf_le rfl) ⟨rfl, rfl⟩ rfl dX0_isPartOf_2 (fun _ => rfl) (fun v2 => ?_)
  refine hf_ild_n (pc := 5) 1 rfl rfl dX0_isPartOf_5 ?_
  refine hf_iconst (pc := 6) dX0_isPartOf_6 ?_
  refine hf_cS (pc := 7) (N := M_X0_piecesIn) (ts := [0, 0]) (vs := [x1, 0]) (st := [(0, v2)]) (fun r => [(0, r), (0, v2)]) (c_X0_piecesIn x1 0) cal_X0_piecesIn ml_X0_125 ⟨hf_le rfl, hf_le rfl⟩ (hf_le rfl) ⟨rfl, rfl⟩ rfl dX0_isPartOf_7 (fun _ => rfl) (fun v7 => ?_)
  refine hf_icmp_gt (pc := 10) 43 dX0_isPartOf_10 rfl ?_ ?_
  · refine hf_iconst (pc := 43) dX0_isPartOf_43 ?_
    exact hf_Jret (pc := 44) (r := 0) ⟨dX0_isPartOf_44, Or.inl rfl⟩ (fun _ => rfl)
  · refine hf_ild_n (pc := 13) 0 rfl rfl dX0_isPartOf_13 ?_
    refine hf_iconst (pc := 14) dX0_isPartOf_14 ?_
    refine hf_cS (pc := 15) (N := M_X0_piecesIn) (ts := [0, 0]) (vs := [x0, 1]) (st := []) (fun r => [(0, r)]) (c_X0_piecesIn x0 1) cal_X0_piecesIn ml_X0_125 ⟨hf_le rfl, hf_le rfl⟩ (hf_le rfl) ⟨rfl, rfl⟩ rfl dX0_isPartOf_15 (fun _ => rfl) (fun v15 => ?_)
    refine hf_ild_n (pc := 18) 1 rfl rfl dX0_isPartOf_18 ?_
    refine hf_iconst (pc := 19) dX0_isPartOf_19 ?_
    refine hf_cS (pc := 20) (N := M_X0_piecesIn) (ts := [0, 0]) (vs := [x1, 1]) (st := [(0, v15)]) (fun r => [(0, r), (0, v15)]) (c_X0_piecesIn x1 1) cal_X0_piecesIn ml_X0_125 ⟨hf_le rfl, hf_le rfl⟩ (hf_le rfl) ⟨rfl, rfl⟩ rfl dX0_isPartOf_20 (fun _ => rfl) (fun v20 => ?_)
    refine hf_icmp_gt (pc := 23) 43 dX0_isPartOf_23 rfl ?_ ?_
    · refine hf_iconst (pc := 43) dX0_isPartOf_43 ?_
      exact hf_Jret (pc := 44) (r := 0) ⟨dX0_isPartOf_44, Or.inl rfl⟩ (fun _ => rfl)
    · refine hf_ild_n (pc := 26) 0 rfl rfl dX0_isPartOf_26 ?_
      refine hf_iconst (pc := 27) dX0_isPartOf_27 ?_
      refine hf_cS (pc := 28) (N := M_X0_piecesIn) (ts := [0, 0]) (vs := [x0, 2]) (st := []) (fun r => [(0, r)]) (c_X0_piecesIn x0 2) cal_X0_piecesIn ml_X0_125 ⟨hf_le rfl, hf_le rfl⟩ (hf_le rfl) ⟨rfl, rfl⟩ rfl dX0_isPartOf_28 (fun _ => rfl) (fun v28 => ?_)
      refine hf_ild_n (pc := 31) 1 rfl rfl dX0_isPartOf_31 ?_
      refine hf_iconst (pc := 32) dX0_isPartOf_32 ?_
      refine hf_cS (pc := 33) (N := M_X0_piecesIn) (ts := [0, 0]) (vs := [x1, 2]) (st := [(0, v28)]) (fun r => [(0, r), (0, v28)]) (c_X0_piecesIn x1 2) cal_X0_piecesIn ml_X0_125 ⟨hf_le rfl, hf_le rfl⟩ (hf_le rfl) ⟨rfl, rfl⟩ rfl dX0_isPartOf_33 (fun _ => rfl) (fun v33 => ?_)
      refine hf_icmp_gt (pc := 36) 43 dX0_isPartOf_36 rfl ?_ ?_
      · refine hf_iconst (pc := 43) dX0_isPartOf_43 ?_
        exact hf_Jret (pc := 44) (r := 0) ⟨dX0_isPartOf_44, Or.inl rfl⟩ (fun _ => rfl)
      · refine hf_iconst (pc := 39) dX0_isPartOf_39 ?_
        refine hf_goto (pc := 40) 44 dX0_isPartOf_40 rfl ?_
        exact hf_Jret (pc := 44) (r := 1) ⟨dX0_isPartOf_44, Or.inr rfl⟩ (fun _ => rfl)
/-! BestTable.pickOf(I[I[III)V -/
def M_X0_pickOf : hf_D := (yX0_pickOf, cX0_pickOf, 17, none, 1, 24)
def f_X0_pickOf_245 (rec_88 : Int × Int → hf_M Int) (x0 x1 x2 x3 x4 x7 x8 x9 x10 x11 : Int) : hf_M Int :=
  hf_bd (hf_ret (x10 + x11)) (fun x10_250 => hf_bd (hf_ret (x11 + 1)) (fun x11_252 => rec_88 (x10_250, x11_252)))
def f_X0_pickOf_209 (rec_88 : Int × Int → hf_M Int) (x0 x1 x2 x3 x4 x7 x8 x9 x10 x11 s0 s1 : Int) : hf_M Int :=
  hf_bd (hf_ret (s0 + s1)) (fun x16_210 => hf_bd (hf_gf 0 15 x0) (fun v215 => hf_cb x16_210 v215 (v215 ≤ x16_210) (f_X0_pickOf_245 rec_88 x0 x1 x2 x3 x4 x7 x8 x9 x10 x11) (hf_bd (hf_pf 0 15 x0 x16_210) (fun _ => hf_bd (hf_pf 0 16 x0 x1) (fun _ => hf_bd (hf_gf 0 9 x0) (fun v236 => hf_bd (hf_al 20 v236 x1) (fun v240 => hf_bd (hf_pf 0 17 x0 (x11 + v240)) (fun _ => f_X0_pickOf_245 rec_88 x0 x1 x2 x3 x4 x7 x8 x9 x10 x11))))))))
def f_X0_pickOf_145 (rec_88 : Int × Int → hf_M Int) (x0 x1 x2 x3 x4 x7 x8 x9 x10 x11 x12 s0 : Int) : hf_M Int :=
  hf_bd (hf_gf 0 10 x0) (fun v150 => hf_bd (hf_al 20 v150 x1) (fun v154 => hf_bd (hf_al 20 x3 x10) (fun v159 => hf_bd (hf_ret ((s0 * v154) + v159)) (fun x14_161 => hf_bd (hf_gf 0 15 x0) (fun v169 => hf_cb (x12 + x14_161) v169 ((x12 + x14_161) < v169) (hf_bd (hf_al 20 x2 (x9 + x11)) (fun v182 => hf_bd (hf_gf 0 6 x0) (fun v188 => hf_cz v188 (v188 = 0) (hf_ck (hf_inI x14_161 ∧ hf_inI v182) (hf_bd (hf_ret (max x14_161 v182)) (fun v206 => f_X0_pickOf_209 rec_88 x0 x1 x2 x3 x4 x7 x8 x9 x10 x11 x12 v206))) (f_X0_pickOf_209 rec_88 x0 x1 x2 x3 x4 x7 x8 x9 x10 x11 x12 (x14_161 + v182))))) (hf_ret 0))))))
def B_X0_pickOf_88 (x0 x1 x2 x3 x4 x7 x8 x9 : Int) (rec_88 : Int × Int → hf_M Int) (x10 x11 : Int) : hf_M Int :=
  hf_cb x11 x7 (x7 < x11) (hf_ret 0) (hf_bd (hf_gf 0 7 x0) (fun v98 => hf_bd (hf_gf 0 8 x0) (fun v102 => hf_bd (hf_gf 0 9 x0) (fun v108 => hf_bd (hf_al 20 v108 x1) (fun v112 => hf_bd (hf_ret (x8 * (v98 + (v102 * (x11 + v112))))) (fun x12_117 => hf_bd (hf_gf 0 6 x0) (fun v120 => hf_cz v120 (v120 = 0) (f_X0_pickOf_145 rec_88 x0 x1 x2 x3 x4 x7 x8 x9 x10 x11 x12_117 1) (hf_bd (hf_gf 0 11 x0) (fun v127 => hf_bd (hf_al 20 v127 x11) (fun v132 => hf_bd (hf_gf 0 11 x0) (fun v134 => hf_bd (hf_al 20 v134 x4) (fun v139 => f_X0_pickOf_145 rec_88 x0 x1 x2 x3 x4 x7 x8 x9 x10 x11 x12_117 (v132 - v139)))))))))))))
def f_X0_pickOf_88 (x0 x1 x2 x3 x4 x7 x8 x9 x10 x11 : Int) : hf_M Int := hf_fx (fun rec s => B_X0_pickOf_88 x0 x1 x2 x3 x4 x7 x8 x9 rec s.1 s.2) hf_N (x10, x11)
def f_X0_pickOf_63 (x0 x1 x2 x3 x4 x5 x6 x7 s0 : Int) : hf_M Int :=
  hf_bd (f_X11_spanAt 0 x5) (fun v68 => hf_bd (f_X11_spanAt x4 (x6 - 1)) (fun v79 => f_X0_pickOf_88 x0 x1 x2 x3 x4 x7 s0 v68 v79 x6))
def f_X0_pickOf (x0 x1 x2 x3 x4 x5 : Int) : hf_M Int :=
  hf_bd (hf_gf 0 9 x0) (fun v6 => hf_bd (hf_al 20 v6 x1) (fun v10 => hf_ck (hf_inI (x4 + 1) ∧ hf_inI (1 - v10)) (hf_bd (hf_ret (max (x4 + 1) (1 - v10))) (fun v12 => hf_bd (hf_gf 0 5 x0) (fun v20 => hf_bd (hf_gf 0 9 x0) (fun v24 => hf_bd (hf_al 20 v24 x1) (fun v28 => hf_ck (hf_inI x5 ∧ hf_inI (v20 - v28)) (hf_bd (hf_ret (min x5 (v20 - v28))) (fun v30 => hf_bd (hf_gf 0 6 x0) (fun v36 => hf_cz v36 (v36 = 0) (f_X0_pickOf_63 x0 x1 x2 x3 x4 x5 v12 v30 1) (hf_bd (hf_gf 0 11 x0) (fun v43 => hf_bd (hf_al 20 v43 (x5 + 1)) (fun v50 => hf_bd (hf_gf 0 11 x0) (fun v52 => hf_bd (hf_al 20 v52 x4) (fun v57 => f_X0_pickOf_63 x0 x1 x2 x3 x4 x5 v12 v30 (v50 - v57))))))))))))))))
theorem cal_X0_pickOf : hf_cv M_X0_pickOf 0 5 := ⟨⟨ii_X0, kc_X0_pickOf, by decide, by decide, by decide +kernel⟩, ki_X0_pickOf, kv_X0_pickOf, _, rfl, rfl⟩
set_option maxRecDepth 20000 in
theorem j_X0_pickOf_245 (x0 x1 x2 x3 x4 x7 x8 x9 x10 x11 : Int) (rec_88 : Int × Int → hf_M Int) (hrec_88 : ∀ s : Int × Int, hf_J M_X0_pickOf 88 [(0, 2, x0), (1, 0, x1), (2, 2, x2), (3, 2, x3), (4, 0, x4), (7, 0, x7), (8, 0, x8), (9, 0, x9), (10, 0, s.1), (11, 0, s.2)] [] (rec_88 s)) : hf_J M_X0_pickOf 245 [(0, 2, x0), (1, 0, x1), (2, 2, x2), (3, 2, x3), (4, 0, x4), (7, 0, x7), (8, 0, x8), (9, 0, x9), (10, 0, x10), (11, 0, x11)] [] (f_X0_pickOf_245 rec_88 x0 x1 x2 x3 x4 x7 x8 x9 x10 x11) := by
  refine hf_ild (pc := 245) 8 rfl dX0_pickOf_245 ?_
  refine hf_ild (pc := 247) 9 rfl dX0_pickOf_247 ?_
  refine hf_iadd (pc := 249) dX0_pickOf_249 ?_
  refine hf_istB (pc := 250) (fun y => [(10, 0, y), (0, 2, x0), (1, 0, x1), (2, 2, x2), (3, 2, x3), (4, 0, x4), (7, 0, x7), (8, 0, x8), (9, 0, x9), (11, 0, x11)]) (by decide) (fun _ => rfl) dX0_pickOf_250 (fun x10_250 => ?_)
  refine hf_iincB (pc := 252) (fun y => [(11, 0, y), (10, 0, x10_250), (0, 2, x0), (1, 0, x1), (2, 2, x2), (3, 2, x3), (4, 0, x4), (7, 0, x7), (8, 0, x8), (9, 0, x9)]) (q := 9) rfl (by decide) (fun _ => rfl) dX0_pickOf_252 (fun x11_252 => ?_)
  refine hf_goto (pc := 255) 88 dX0_pickOf_255 rfl ?_
  exact hf_sub [2, 3, 4, 5, 6, 7, 8, 9, 1, 0] rfl (hrec_88 (x10_250, x11_252))
set_option maxRecDepth 20000 in
theorem j_X0_pickOf_209 (x0 x1 x2 x3 x4 x7 x8 x9 x10 x11 s0 s1 : Int) (rec_88 : Int × Int → hf_M Int) (hrec_88 : ∀ s : Int × Int, hf_J M_X0_pickOf 88 [(0, 2, x0), (1, 0, x1), (2, 2, x2), (3, 2, x3), (4, 0, x4), (7, 0, x7), (8, 0, x8), (9, 0, x9), (10, 0, s.1), (11, 0, s.2)] [] (rec_88 s)) : hf_J M_X0_pickOf 209 [(0, 2, x0), (1, 0, x1), (2, 2, x2), (3, 2, x3), (4, 0, x4), (7, 0, x7), (8, 0, x8), (9, 0, x9), (10, 0, x10), (11, 0, x11)] [(0, s1), (0, s0)] (f_X0_pickOf_209 rec_88 x0 x1 x2 x3 x4 x7 x8 x9 x10 x11 s0 s1) := by
  refine hf_iadd (pc := 209) dX0_pickOf_209 ?_
  refine hf_istB (pc := 210) (fun y => [(16, 0, y), (0, 2, x0), (1, 0, x1), (2, 2, x2), (3, 2, x3), (4, 0, x4), (7, 0, x7), (8, 0, x8), (9, 0, x9), (10, 0, x10), (11, 0, x11)]) (by decide) (fun _ => rfl) dX0_pickOf_210 (fun x16_210 => ?_)
  refine hf_ild (pc := 212) 0 rfl dX0_pickOf_212 ?_
  refine hf_ald_n (pc := 214) 1 rfl rfl dX0_pickOf_214 ?_
  refine hf_getf (pc := 215) fl_X0_62 dX0_pickOf_215 (fun v215 => ?_)
  refine hf_icmp_ge (pc := 218) 245 dX0_pickOf_218 rfl ?_ ?_
  · exact hf_sub [1, 2, 3, 4, 5, 6, 7, 8, 9, 10] rfl (j_X0_pickOf_245 x0 x1 x2 x3 x4 x7 x8 x9 x10 x11 rec_88 hrec_88)
  · refine hf_ald_n (pc := 221) 1 rfl rfl dX0_pickOf_221 ?_
    refine hf_ild (pc := 222) 0 rfl dX0_pickOf_222 ?_
    refine hf_putf (pc := 224) fl_X0_62 trivial dX0_pickOf_224 ?_
    refine hf_ald_n (pc := 227) 1 rfl rfl dX0_pickOf_227 ?_
    refine hf_ild_n (pc := 228) 2 rfl rfl dX0_pickOf_228 ?_
    refine hf_putf (pc := 229) fl_X0_65 trivial dX0_pickOf_229 ?_
    refine hf_ald_n (pc := 232) 1 rfl rfl dX0_pickOf_232 ?_
    refine hf_ild (pc := 233) 10 rfl dX0_pickOf_233 ?_
    refine hf_ald_n (pc := 235) 1 rfl rfl dX0_pickOf_235 ?_
    refine hf_getf (pc := 236) fl_X0_43 dX0_pickOf_236 (fun v236 => ?_)
    refine hf_ild_n (pc := 239) 2 rfl rfl dX0_pickOf_239 ?_
    refine hf_iald (pc := 240) dX0_pickOf_240 (fun v240 => ?_)
    refine hf_iadd (pc := 241) dX0_pickOf_241 ?_
    refine hf_putf (pc := 242) fl_X0_68 trivial dX0_pickOf_242 ?_
    exact hf_sub [1, 2, 3, 4, 5, 6, 7, 8, 9, 10] rfl (j_X0_pickOf_245 x0 x1 x2 x3 x4 x7 x8 x9 x10 x11 rec_88 hrec_88)
set_option maxRecDepth 20000 in
theorem j_X0_pickOf_145 (x0 x1 x2 x3 x4 x7 x8 x9 x10 x11 x12 s0 : Int) (rec_88 : Int × Int → hf_M Int) (hrec_88 : ∀ s : Int × Int, hf_J M_X0_pickOf 88 [(0, 2, x0), (1, 0, x1), (2, 2, x2), (3, 2, x3), (4, 0, x4), (7, 0, x7), (8, 0, x8), (9, 0, x9), (10, 0, s.1), (11, 0, s.2)] [] (rec_88 s)) : hf_J M_X0_pickOf 145 [(0, 2, x0), (1, 0, x1), (2, 2, x2), (3, 2, x3), (4, 0, x4), (7, 0, x7), (8, 0, x8), (9, 0, x9), (10, 0, x10), (11, 0, x11), (12, 0, x12)] [(0, s0)] (f_X0_pickOf_145 rec_88 x0 x1 x2 x3 x4 x7 x8 x9 x10 x11 x12 s0) := by
  refine hf_ist (pc := 145) (lv' := [(13, 0, s0), (0, 2, x0), (1, 0, x1), (2, 2, x2), (3, 2, x3), (4, 0, x4), (7, 0, x7), (8, 0, x8), (9, 0, x9), (10, 0, x10), (11, 0, x11), (12, 0, x12)]) (by decide) rfl dX0_pickOf_145 ?_
  refine hf_ild (pc := 147) 0 rfl dX0_pickOf_147 ?_
  refine hf_ald_n (pc := 149) 1 rfl rfl dX0_pickOf_149 ?_
  refine hf_getf (pc := 150) fl_X0_46 dX0_pickOf_150 (fun v150 => ?_)
  refine hf_ild_n (pc := 153) 2 rfl rfl dX0_pickOf_153 ?_
  refine hf_iald (pc := 154) dX0_pickOf_154 (fun v154 => ?_)
  refine hf_imul (pc := 155) dX0_pickOf_155 ?_
  refine hf_ald_n (pc := 156) 4 rfl rfl dX0_pickOf_156 ?_
  refine hf_ild (pc := 157) 9 rfl dX0_pickOf_157 ?_
  refine hf_iald (pc := 159) dX0_pickOf_159 (fun v159 => ?_)
  refine hf_iadd (pc := 160) dX0_pickOf_160 ?_
  refine hf_istB (pc := 161) (fun y => [(14, 0, y), (13, 0, s0), (0, 2, x0), (1, 0, x1), (2, 2, x2), (3, 2, x3), (4, 0, x4), (7, 0, x7), (8, 0, x8), (9, 0, x9), (10, 0, x10), (11, 0, x11), (12, 0, x12)]) (by decide) (fun _ => rfl) dX0_pickOf_161 (fun x14_161 => ?_)
  refine hf_ild (pc := 163) 12 rfl dX0_pickOf_163 ?_
  refine hf_ild (pc := 165) 0 rfl dX0_pickOf_165 ?_
  refine hf_iadd (pc := 167) dX0_pickOf_167 ?_
  refine hf_ald_n (pc := 168) 2 rfl rfl dX0_pickOf_168 ?_
  refine hf_getf (pc := 169) fl_X0_62 dX0_pickOf_169 (fun v169 => ?_)
  refine hf_icmp_lt (pc := 172) 176 dX0_pickOf_172 rfl ?_ ?_
  · refine hf_ald_n (pc := 176) 4 rfl rfl dX0_pickOf_176 ?_
    refine hf_ild (pc := 177) 9 rfl dX0_pickOf_177 ?_
    refine hf_ild (pc := 179) 11 rfl dX0_pickOf_179 ?_
    refine hf_iadd (pc := 181) dX0_pickOf_181 ?_
    refine hf_iald (pc := 182) dX0_pickOf_182 (fun v182 => ?_)
    refine hf_ist (pc := 183) (lv' := [(15, 0, v182), (14, 0, x14_161), (13, 0, s0), (0, 2, x0), (1, 0, x1), (2, 2, x2), (3, 2, x3), (4, 0, x4), (7, 0, x7), (8, 0, x8), (9, 0, x9), (10, 0, x10), (11, 0, x11), (12, 0, x12)]) (by decide) rfl dX0_pickOf_183 ?_
    refine hf_ild (pc := 185) 13 rfl dX0_pickOf_185 ?_
    refine hf_ald_n (pc := 187) 3 rfl rfl dX0_pickOf_187 ?_
    refine hf_getf (pc := 188) fl_X0_33 dX0_pickOf_188 (fun v188 => ?_)
    refine hf_if_eq (pc := 191) 202 dX0_pickOf_191 rfl ?_ ?_
    · refine hf_ild (pc := 202) 1 rfl dX0_pickOf_202 ?_
      refine hf_ild (pc := 204) 0 rfl dX0_pickOf_204 ?_
      refine hf_mmax (pc := 206) ml_X0_142 ⟨hf_le rfl, hf_le rfl⟩ dX0_pickOf_206 (fun v206 => ?_)
      exact hf_sub [3, 4, 5, 6, 7, 8, 9, 10, 11, 12] rfl (j_X0_pickOf_209 x0 x1 x2 x3 x4 x7 x8 x9 x10 x11 x12 v206 rec_88 hrec_88)
    · refine hf_ild (pc := 194) 1 rfl dX0_pickOf_194 ?_
      refine hf_ild (pc := 196) 0 rfl dX0_pickOf_196 ?_
      refine hf_iadd (pc := 198) dX0_pickOf_198 ?_
      refine hf_goto (pc := 199) 209 dX0_pickOf_199 rfl ?_
      exact hf_sub [3, 4, 5, 6, 7, 8, 9, 10, 11, 12] rfl (j_X0_pickOf_209 x0 x1 x2 x3 x4 x7 x8 x9 x10 x11 x12 (x14_161 + v182) rec_88 hrec_88)
  · exact hf_Jret (pc := 175) dX0_pickOf_175 (fun _ => rfl)
set_option maxRecDepth 20000 in
theorem jb_X0_pickOf_88 (x0 x1 x2 x3 x4 x7 x8 x9 : Int) (rec_88 : Int × Int → hf_M Int) (hrec_88 : ∀ s : Int × Int, hf_J M_X0_pickOf 88 [(0, 2, x0), (1, 0, x1), (2, 2, x2), (3, 2, x3), (4, 0, x4), (7, 0, x7), (8, 0, x8), (9, 0, x9), (10, 0, s.1), (11, 0, s.2)] [] (rec_88 s)) (x10 x11 : Int) : hf_J M_X0_pickOf 88 [(0, 2, x0), (1, 0, x1), (2, 2, x2), (3, 2, x3), (4, 0, x4), (7, 0, x7), (8, 0, x8), (9, 0, x9), (10, 0, x10), (11, 0, x11)] [] (B_X0_pickOf_88 x0 x1 x2 x3 x4 x7 x8 x9 rec_88 x10 x11) := by
  refine hf_ild (pc := 88) 9 rfl dX0_pickOf_88 ?_
  refine hf_ild (pc := 90) 5 rfl dX0_pickOf_90 ?_
  refine hf_icmp_gt (pc := 92) 258 dX0_pickOf_92 rfl ?_ ?_
  · exact hf_Jret (pc := 258) dX0_pickOf_258 (fun _ => rfl)
  · refine hf_ild (pc := 95) 6 rfl dX0_pickOf_95 ?_
    refine hf_ald_n (pc := 97) 0 rfl rfl dX0_pickOf_97 ?_
    refine hf_getf (pc := 98) fl_X0_37 dX0_pickOf_98 (fun v98 => ?_)
    refine hf_ald_n (pc := 101) 0 rfl rfl dX0_pickOf_101 ?_
    refine hf_getf (pc := 102) fl_X0_40 dX0_pickOf_102 (fun v102 => ?_)
    refine hf_ild (pc := 105) 9 rfl dX0_pickOf_105 ?_
    refine hf_ald_n (pc := 107) 0 rfl rfl dX0_pickOf_107 ?_
    refine hf_getf (pc := 108) fl_X0_43 dX0_pickOf_108 (fun v108 => ?_)
    refine hf_ild_n (pc := 111) 1 rfl rfl dX0_pickOf_111 ?_
    refine hf_iald (pc := 112) dX0_pickOf_112 (fun v112 => ?_)
    refine hf_iadd (pc := 113) dX0_pickOf_113 ?_
    refine hf_imul (pc := 114) dX0_pickOf_114 ?_
    refine hf_iadd (pc := 115) dX0_pickOf_115 ?_
    refine hf_imul (pc := 116) dX0_pickOf_116 ?_
    refine hf_istB (pc := 117) (fun y => [(12, 0, y), (0, 2, x0), (1, 0, x1), (2, 2, x2), (3, 2, x3), (4, 0, x4), (7, 0, x7), (8, 0, x8), (9, 0, x9), (10, 0, x10), (11, 0, x11)]) (by decide) (fun _ => rfl) dX0_pickOf_117 (fun x12_117 => ?_)
    refine hf_ald_n (pc := 119) 1 rfl rfl dX0_pickOf_119 ?_
    refine hf_getf (pc := 120) fl_X0_33 dX0_pickOf_120 (fun v120 => ?_)
    refine hf_if_eq (pc := 123) 144 dX0_pickOf_123 rfl ?_ ?_
    · refine hf_iconst (pc := 144) dX0_pickOf_144 ?_
      exact hf_sub [1, 2, 3, 4, 5, 6, 7, 8, 9, 10, 0] rfl (j_X0_pickOf_145 x0 x1 x2 x3 x4 x7 x8 x9 x10 x11 x12_117 1 rec_88 hrec_88)
    · refine hf_ald_n (pc := 126) 1 rfl rfl dX0_pickOf_126 ?_
      refine hf_getf (pc := 127) fl_X0_49 dX0_pickOf_127 (fun v127 => ?_)
      refine hf_ild (pc := 130) 10 rfl dX0_pickOf_130 ?_
      refine hf_iald (pc := 132) dX0_pickOf_132 (fun v132 => ?_)
      refine hf_ald_n (pc := 133) 1 rfl rfl dX0_pickOf_133 ?_
      refine hf_getf (pc := 134) fl_X0_49 dX0_pickOf_134 (fun v134 => ?_)
      refine hf_ild (pc := 137) 5 rfl dX0_pickOf_137 ?_
      refine hf_iald (pc := 139) dX0_pickOf_139 (fun v139 => ?_)
      refine hf_isub (pc := 140) dX0_pickOf_140 ?_
      refine hf_goto (pc := 141) 145 dX0_pickOf_141 rfl ?_
      exact hf_sub [1, 2, 3, 4, 5, 6, 7, 8, 9, 10, 0] rfl (j_X0_pickOf_145 x0 x1 x2 x3 x4 x7 x8 x9 x10 x11 x12_117 (v132 - v139) rec_88 hrec_88)
set_option maxRecDepth 20000 in
theorem j_X0_pickOf_88 (x0 x1 x2 x3 x4 x7 x8 x9 x10 x11 : Int) : hf_J M_X0_pickOf 88 [(0, 2, x0), (1, 0, x1), (2, 2, x2), (3, 2, x3), (4, 0, x4), (7, 0, x7), (8, 0, x8), (9, 0, x9), (10, 0, x10), (11, 0, x11)] [] (f_X0_pickOf_88 x0 x1 x2 x3 x4 x7 x8 x9 x10 x11) :=
  hf_Jfx (L := fun s => [(0, 2, x0), (1, 0, x1), (2, 2, x2), (3, 2, x3), (4, 0, x4), (7, 0, x7), (8, 0, x8), (9, 0, x9), (10, 0, s.1), (11, 0, s.2)]) (fun rec hrec s => jb_X0_pickOf_88 x0 x1 x2 x3 x4 x7 x8 x9 rec hrec s.1 s.2) hf_N (x10, x11)
set_option maxRecDepth 20000 in
theorem j_X0_pickOf_63 (x0 x1 x2 x3 x4 x5 x6 x7 s0 : Int) : hf_J M_X0_pickOf 63 [(0, 2, x0), (1, 0, x1), (2, 2, x2), (3, 2, x3), (4, 0, x4), (5, 0, x5), (6, 0, x6), (7, 0, x7)] [(0, s0)] (f_X0_pickOf_63 x0 x1 x2 x3 x4 x5 x6 x7 s0) := by
  refine hf_ist (pc := 63) (lv' := [(8, 0, s0), (0, 2, x0), (1, 0, x1), (2, 2, x2), (3, 2, x3), (4, 0, x4), (5, 0, x5), (6, 0, x6), (7, 0, x7)]) (by decide) rfl dX0_pickOf_63 ?_
  refine hf_iconst (pc := 65) dX0_pickOf_65 ?_
  refine hf_ild (pc := 66) 6 rfl dX0_pickOf_66 ?_
  refine hf_cSN (pc := 68) (N := M_X11_spanAt) (ts := [0, 0]) (vs := [0, x5]) (st := []) (fun r => [(0, r)]) (c_X11_spanAt 0 x5) cal_X11_spanAt mn_X0_135 ⟨hf_le rfl, hf_le rfl⟩ (hf_le rfl) ⟨rfl, rfl⟩ rfl dX0_pickOf_68 (fun _ => rfl) (fun v68 => ?_)
  refine hf_ist (pc := 71) (lv' := [(9, 0, v68), (8, 0, s0), (0, 2, x0), (1, 0, x1), (2, 2, x2), (3, 2, x3), (4, 0, x4), (5, 0, x5), (6, 0, x6), (7, 0, x7)]) (by decide) rfl dX0_pickOf_71 ?_
  refine hf_ild (pc := 73) 6 rfl dX0_pickOf_73 ?_
  refine hf_ild (pc := 75) 8 rfl dX0_pickOf_75 ?_
  refine hf_iconst (pc := 77) dX0_pickOf_77 ?_
  refine hf_isub (pc := 78) dX0_pickOf_78 ?_
  refine hf_cSN (pc := 79) (N := M_X11_spanAt) (ts := [0, 0]) (vs := [x4, (x6 - 1)]) (st := []) (fun r => [(0, r)]) (c_X11_spanAt x4 (x6 - 1)) cal_X11_spanAt mn_X0_135 ⟨hf_le rfl, hf_le rfl⟩ (hf_le rfl) ⟨rfl, rfl⟩ rfl dX0_pickOf_79 (fun _ => rfl) (fun v79 => ?_)
  refine hf_ist (pc := 82) (lv' := [(10, 0, v79), (9, 0, v68), (8, 0, s0), (0, 2, x0), (1, 0, x1), (2, 2, x2), (3, 2, x3), (4, 0, x4), (5, 0, x5), (6, 0, x6), (7, 0, x7)]) (by decide) rfl dX0_pickOf_82 ?_
  refine hf_ild (pc := 84) 9 rfl dX0_pickOf_84 ?_
  refine hf_ist (pc := 86) (lv' := [(11, 0, x6), (10, 0, v79), (9, 0, v68), (8, 0, s0), (0, 2, x0), (1, 0, x1), (2, 2, x2), (3, 2, x3), (4, 0, x4), (5, 0, x5), (6, 0, x6), (7, 0, x7)]) (by decide) rfl dX0_pickOf_86 ?_
  exact hf_sub [4, 5, 6, 7, 8, 11, 3, 2, 1, 0] rfl (j_X0_pickOf_88 x0 x1 x2 x3 x4 x7 s0 v68 v79 x6)
set_option maxRecDepth 20000 in
theorem c_X0_pickOf (x0 x1 x2 x3 x4 x5 : Int) : hf_Met M_X0_pickOf [2, 0, 2, 2, 0, 0] [x0, x1, x2, x3, x4, x5] (f_X0_pickOf x0 x1 x2 x3 x4 x5) := by
  refine hf_met rfl (by decide) (by decide) (by decide) ?_
  show hf_J M_X0_pickOf 0 [(0, 2, x0), (1, 0, x1), (2, 2, x2), (3, 2, x3), (4, 0, x4), (5, 0, x5)] [] _
  refine hf_ild (pc := 0) 4 rfl dX0_pickOf_0 ?_
  refine hf_iconst (pc := 2) dX0_pickOf_2 ?_
  refine hf_iadd (pc := 3) dX0_pickOf_3 ?_
  refine hf_iconst (pc := 4) dX0_pickOf_4 ?_
  refine hf_ald_n (pc := 5) 0 rfl rfl dX0_pickOf_5 ?_
  refine hf_getf (pc := 6) fl_X0_43 dX0_pickOf_6 (fun v6 => ?_)
  refine hf_ild_n (pc := 9) 1 rfl rfl dX0_pickOf_9 ?_
  refine hf_iald (pc := 10) dX0_pickOf_10 (fun v10 => ?_)
  refine hf_isub (pc := 11) dX0_pickOf_11 ?_
  refine hf_mmax (pc := 12) ml_X0_142 ⟨hf_le rfl, hf_le rfl⟩ dX0_pickOf_12 (fun v12 => ?_)
  refine hf_ist (pc := 15) (lv' := [(6, 0, v12), (0, 2, x0), (1, 0, x1), (2, 2, x2), (3, 2, x3), (4, 0, x4), (5, 0, x5)]) (by decide) rfl dX0_pickOf_15 ?_
  refine hf_ild (pc := 17) 6 rfl dX0_pickOf_17 ?_
  refine hf_ald_n (pc := 19) 1 rfl rfl dX0_pickOf_19 ?_
  refine hf_getf (pc := 20) fl_X0_30 dX0_pickOf_20 (fun v20 => ?_)
  refine hf_ald_n (pc := 23) 1 rfl rfl dX0_pickOf_23 ?_
  refine hf_getf (pc := 24) fl_X0_43 dX0_pickOf_24 (fun v24 => ?_)
  refine hf_ild_n (pc := 27) 2 rfl rfl dX0_pickOf_27 ?_
  refine hf_iald (pc := 28) dX0_pickOf_28 (fun v28 => ?_)
  refine hf_isub (pc := 29) dX0_pickOf_29 ?_
  refine hf_mmin (pc := 30) ml_X0_103 ⟨hf_le rfl, hf_le rfl⟩ dX0_pickOf_30 (fun v30 => ?_)
  refine hf_ist (pc := 33) (lv' := [(7, 0, v30), (6, 0, v12), (0, 2, x0), (1, 0, x1), (2, 2, x2), (3, 2, x3), (4, 0, x4), (5, 0, x5)]) (by decide) rfl dX0_pickOf_33 ?_
  refine hf_ald_n (pc := 35) 2 rfl rfl dX0_pickOf_35 ?_
  refine hf_getf (pc := 36) fl_X0_33 dX0_pickOf_36 (fun v36 => ?_)
  refine hf_if_eq (pc := 39) 62 dX0_pickOf_39 rfl ?_ ?_
  · refine hf_iconst (pc := 62) dX0_pickOf_62 ?_
    exact hf_sub [2, 3, 4, 5, 6, 7, 1, 0] rfl (j_X0_pickOf_63 x0 x1 x2 x3 x4 x5 v12 v30 1)
  · refine hf_ald_n (pc := 42) 2 rfl rfl dX0_pickOf_42 ?_
    refine hf_getf (pc := 43) fl_X0_49 dX0_pickOf_43 (fun v43 => ?_)
    refine hf_ild (pc := 46) 7 rfl dX0_pickOf_46 ?_
    refine hf_iconst (pc := 48) dX0_pickOf_48 ?_
    refine hf_iadd (pc := 49) dX0_pickOf_49 ?_
    refine hf_iald (pc := 50) dX0_pickOf_50 (fun v50 => ?_)
    refine hf_ald_n (pc := 51) 2 rfl rfl dX0_pickOf_51 ?_
    refine hf_getf (pc := 52) fl_X0_49 dX0_pickOf_52 (fun v52 => ?_)
    refine hf_ild (pc := 55) 6 rfl dX0_pickOf_55 ?_
    refine hf_iald (pc := 57) dX0_pickOf_57 (fun v57 => ?_)
    refine hf_isub (pc := 58) dX0_pickOf_58 ?_
    refine hf_goto (pc := 59) 63 dX0_pickOf_59 rfl ?_
    exact hf_sub [2, 3, 4, 5, 6, 7, 1, 0] rfl (j_X0_pickOf_63 x0 x1 x2 x3 x4 x5 v12 v30 (v50 - v57))
/-! BestTable.pick(III)I -/
def M_X0_pick : hf_D := (yX0_pick, cX0_pick, 7, some .int, 2, 60)
def f_X0_pick_72 (rec_21 : Int → hf_M Int) (x0 x1 x2 x3 x4 x5 : Int) : hf_M Int :=
  hf_bd (hf_ret (x5 + 1)) (fun x5_72 => rec_21 x5_72)
def B_X0_pick_21 (x0 x1 x2 x3 x4 : Int) (rec_21 : Int → hf_M Int) (x5 : Int) : hf_M Int :=
  hf_cb x5 3 (3 ≤ x5) (hf_bd (hf_gf 0 15 x0) (fun v79 => hf_ret v79)) (hf_bd (f_X0_piecesIn x1 x5) (fun v30 => hf_cz v30 (v30 ≤ 0) (f_X0_pick_72 rec_21 x0 x1 x2 x3 x4 x5) (hf_bd (hf_gf 0 0 x0) (fun v37 => hf_bd (f_X11_unitOf x5) (fun v43 => hf_bd (hf_al 24 v37 (x1 - v43)) (fun v47 => hf_it (x4 = 0) (f_X0_pick_72 rec_21 x0 x1 x2 x3 x4 x5) (hf_it (v47 = 0) (f_X0_pick_72 rec_21 x0 x1 x2 x3 x4 x5) (hf_bd (hf_ob 0 x0 (f_X0_pickOf x0 x5 x4 v47 x2 x3)) (fun _ => f_X0_pick_72 rec_21 x0 x1 x2 x3 x4 x5)))))))))
def f_X0_pick_21 (x0 x1 x2 x3 x4 x5 : Int) : hf_M Int := hf_fx (fun rec s => B_X0_pick_21 x0 x1 x2 x3 x4 rec s) hf_N x5
def f_X0_pick (x0 x1 x2 x3 : Int) : hf_M Int :=
  hf_bd (hf_pf 0 15 x0 1000000000) (fun _ => hf_bd (hf_ob 0 x0 (f_X0_forgetFirst x0)) (fun _ => hf_bd (hf_gf 0 0 x0) (fun v11 => hf_bd (hf_al 24 v11 x1) (fun v15 => f_X0_pick_21 x0 x1 x2 x3 v15 0))))
theorem cal_X0_pick : hf_cv M_X0_pick 0 3 := ⟨⟨ii_X0, kc_X0_pick, by decide, by decide, by decide +kernel⟩, ki_X0_pick, kv_X0_pick, _, rfl, rfl⟩
set_option maxRecDepth 20000 in
theorem j_X0_pick_72 (x0 x1 x2 x3 x4 x5 : Int) (rec_21 : Int → hf_M Int) (hrec_21 : ∀ s : Int, hf_J M_X0_pick 21 [(0, 2, x0), (1, 0, x1), (2, 0, x2), (3, 0, x3), (4, 2, x4), (5, 0, s)] [] (rec_21 s)) : hf_J M_X0_pick 72 [(0, 2, x0), (1, 0, x1), (2, 0, x2), (3, 0, x3), (4, 2, x4), (5, 0, x5)] [] (f_X0_pick_72 rec_21 x0 x1 x2 x3 x4 x5) := by
  refine hf_iincB (pc := 72) (fun y => [(5, 0, y), (0, 2, x0), (1, 0, x1), (2, 0, x2), (3, 0, x3), (4, 2, x4)]) (q := 5) rfl (by decide) (fun _ => rfl) dX0_pick_72 (fun x5_72 => ?_)
  refine hf_goto (pc := 75) 21 dX0_pick_75 rfl ?_
  exact hf_sub [1, 2, 3, 4, 5, 0] rfl (hrec_21 x5_72)
set_option maxRecDepth 20000 in
theorem jb_X0_pick_21 (x0 x1 x2 x3 x4 : Int) (rec_21 : Int → hf_M Int) (hrec_21 : ∀ s : Int, hf_J M_X0_pick 21 [(0, 2, x0), (1, 0, x1), (2, 0, x2), (3, 0, x3), (4, 2, x4), (5, 0, s)] [] (rec_21 s)) (x5 : Int) : hf_J M_X0_pick 21 [(0, 2, x0), (1, 0, x1), (2, 0, x2), (3, 0, x3), (4, 2, x4), (5, 0, x5)] [] (B_X0_pick_21 x0 x1 x2 x3 x4 rec_21 x5) := by
  refine hf_ild (pc := 21) 5 rfl dX0_pick_21 ?_
  refine hf_iconst (pc := 23) dX0_pick_23 ?_
  refine hf_icmp_ge (pc := 24) 78 dX0_pick_24 rfl ?_ ?_
  · refine hf_ald_n (pc := 78) 0 rfl rfl dX0_pick_78 ?_
    refine hf_getf (pc := 79) fl_X0_62 dX0_pick_79 (fun v79 => ?_)
    exact hf_Jret (pc := 82) dX0_pick_82 (fun _ => rfl)
  · refine hf_ild_n (pc := 27) 1 rfl rfl dX0_pick_27 ?_
    refine hf_ild (pc := 28) 5 rfl dX0_pick_28 ?_
    refine hf_cS (pc := 30) (N := M_X0_piecesIn) (ts := [0, 0]) (vs := [x1, x5]) (st := []) (fun r => [(0, r)]) (c_X0_piecesIn x1 x5) cal_X0_piecesIn ml_X0_125 ⟨hf_le rfl, hf_le rfl⟩ (hf_le rfl) ⟨rfl, rfl⟩ rfl dX0_pick_30 (fun _ => rfl) (fun v30 => ?_)
    refine hf_if_le (pc := 33) 72 dX0_pick_33 rfl ?_ ?_
    · exact hf_sub [0, 1, 2, 3, 4, 5] rfl (j_X0_pick_72 x0 x1 x2 x3 x4 x5 rec_21 hrec_21)
    · refine hf_ald_n (pc := 36) 0 rfl rfl dX0_pick_36 ?_
      refine hf_getf (pc := 37) fl_X0_11 dX0_pick_37 (fun v37 => ?_)
      refine hf_ild_n (pc := 40) 1 rfl rfl dX0_pick_40 ?_
      refine hf_ild (pc := 41) 5 rfl dX0_pick_41 ?_
      refine hf_cSN (pc := 43) (N := M_X11_unitOf) (ts := [0]) (vs := [x5]) (st := [(0, x1), (2, v37)]) (fun r => [(0, r), (0, x1), (2, v37)]) (c_X11_unitOf x5) cal_X11_unitOf mn_X0_121 ⟨hf_le rfl, hf_le rfl⟩ (hf_le rfl) ⟨rfl, rfl⟩ rfl dX0_pick_43 (fun _ => rfl) (fun v43 => ?_)
      refine hf_isub (pc := 46) dX0_pick_46 ?_
      refine hf_aald (pc := 47) dX0_pick_47 (fun v47 => ?_)
      refine hf_ast (pc := 48) (lv' := [(6, 2, v47), (0, 2, x0), (1, 0, x1), (2, 0, x2), (3, 0, x3), (4, 2, x4), (5, 0, x5)]) (by decide) rfl dX0_pick_48 ?_
      refine hf_ald (pc := 50) 5 rfl dX0_pick_50 ?_
      refine hf_ifnull (pc := 52) 72 dX0_pick_52 rfl ?_ ?_
      · exact hf_sub [1, 2, 3, 4, 5, 6] rfl (j_X0_pick_72 x0 x1 x2 x3 x4 x5 rec_21 hrec_21)
      · refine hf_ald (pc := 55) 0 rfl dX0_pick_55 ?_
        refine hf_ifnull (pc := 57) 72 dX0_pick_57 rfl ?_ ?_
        · exact hf_sub [1, 2, 3, 4, 5, 6] rfl (j_X0_pick_72 x0 x1 x2 x3 x4 x5 rec_21 hrec_21)
        · refine hf_ald_n (pc := 60) 1 rfl rfl dX0_pick_60 ?_
          refine hf_ild (pc := 61) 6 rfl dX0_pick_61 ?_
          refine hf_ald (pc := 63) 5 rfl dX0_pick_63 ?_
          refine hf_ald (pc := 65) 0 rfl dX0_pick_65 ?_
          refine hf_ild_n (pc := 67) 3 rfl rfl dX0_pick_67 ?_
          refine hf_ild_n (pc := 68) 4 rfl rfl dX0_pick_68 ?_
          refine hf_cV (pc := 69) (N := M_X0_pickOf) (ts := [0, 2, 2, 0, 0]) (vs := [x5, x4, v47, x2, x3]) (st := []) (fun r => []) (c_X0_pickOf x0 x5 x4 v47 x2 x3) cal_X0_pickOf ml_X0_138 ⟨hf_le rfl, hf_le rfl⟩ (hf_le rfl) ⟨rfl, rfl⟩ rfl dX0_pick_69 (fun _ => rfl) (fun _ => ?_)
          exact hf_sub [1, 2, 3, 4, 5, 6] rfl (j_X0_pick_72 x0 x1 x2 x3 x4 x5 rec_21 hrec_21)
set_option maxRecDepth 20000 in
theorem j_X0_pick_21 (x0 x1 x2 x3 x4 x5 : Int) : hf_J M_X0_pick 21 [(0, 2, x0), (1, 0, x1), (2, 0, x2), (3, 0, x3), (4, 2, x4), (5, 0, x5)] [] (f_X0_pick_21 x0 x1 x2 x3 x4 x5) :=
  hf_Jfx (L := fun s => [(0, 2, x0), (1, 0, x1), (2, 0, x2), (3, 0, x3), (4, 2, x4), (5, 0, s)]) (fun rec hrec s => jb_X0_pick_21 x0 x1 x2 x3 x4 rec hrec s) hf_N x5
set_option maxRecDepth 20000 in
theorem c_X0_pick (x0 x1 x2 x3 : Int) : hf_Met M_X0_pick [2, 0, 0, 0] [x0, x1, x2, x3] (f_X0_pick x0 x1 x2 x3) := by
  refine hf_met rfl (by decide) (by decide) (by decide) ?_
  show hf_J M_X0_pick 0 [(0, 2, x0), (1, 0, x1), (2, 0, x2), (3, 0, x3)] [] _
  refine hf_ald_n (pc := 0) 0 rfl rfl dX0_pick_0 ?_
  refine hf_ldc (pc := 1) (n := 1000000000) co_X0_61 (by decide) dX0_pick_1 ?_
  refine hf_putf (pc := 3) fl_X0_62 trivial dX0_pick_3 ?_
  refine hf_ald_n (pc := 6) 0 rfl rfl dX0_pick_6 ?_
  refine hf_cV (pc := 7) (N := M_X0_forgetFirst) (ts := []) (vs := []) (st := []) (fun r => []) (c_X0_forgetFirst x0) cal_X0_forgetFirst ml_X0_84 ⟨hf_le rfl, hf_le rfl⟩ (hf_le rfl) ⟨rfl, rfl⟩ rfl dX0_pick_7 (fun _ => rfl) (fun _ => ?_)
  refine hf_ald_n (pc := 10) 0 rfl rfl dX0_pick_10 ?_
  refine hf_getf (pc := 11) fl_X0_11 dX0_pick_11 (fun v11 => ?_)
  refine hf_ild_n (pc := 14) 1 rfl rfl dX0_pick_14 ?_
  refine hf_aald (pc := 15) dX0_pick_15 (fun v15 => ?_)
  refine hf_ast (pc := 16) (lv' := [(4, 2, v15), (0, 2, x0), (1, 0, x1), (2, 0, x2), (3, 0, x3)]) (by decide) rfl dX0_pick_16 ?_
  refine hf_iconst (pc := 18) dX0_pick_18 ?_
  refine hf_ist (pc := 19) (lv' := [(5, 0, 0), (4, 2, v15), (0, 2, x0), (1, 0, x1), (2, 0, x2), (3, 0, x3)]) (by decide) rfl dX0_pick_19 ?_
  exact hf_sub [2, 3, 4, 5, 1, 0] rfl (j_X0_pick_21 x0 x1 x2 x3 v15 0)
/-! BestTable.fillRow(II)V -/
def M_X0_fillRow : hf_D := (yX0_fillRow, cX0_fillRow, 6, none, 3, 86)
def B_X0_fillRow_40 (rec_15 : Int → hf_M Int) (x0 x1 x3 x4 : Int) (rec_40 : Int → hf_M Int) (x5 : Int) : hf_M Int :=
  hf_cz x5 (x5 < 0) (hf_bd (hf_ret (x4 + 1)) (fun x4_69 => rec_15 x4_69)) (hf_bd (f_X11_spanAt x5 x4) (fun v50 => hf_bd (hf_ob 0 x0 (f_X0_pick x0 x1 x5 x4)) (fun v59 => hf_bd (hf_as 20 x3 v50 v59) (fun _ => hf_bd (hf_ret (x5 + (-1))) (fun x5_63 => rec_40 x5_63)))))
def f_X0_fillRow_40 (rec_15 : Int → hf_M Int) (x0 x1 x3 x4 x5 : Int) : hf_M Int := hf_fx (fun rec s => B_X0_fillRow_40 rec_15 x0 x1 x3 x4 rec s) hf_N x5
def B_X0_fillRow_15 (x0 x1 x3 : Int) (rec_15 : Int → hf_M Int) (x4 : Int) : hf_M Int :=
  hf_bd (hf_gf 0 5 x0) (fun v18 => hf_cb x4 v18 (v18 < x4) (hf_ret 0) (hf_bd (f_X11_spanAt x4 x4) (fun v29 => hf_bd (hf_as 20 x3 v29 0) (fun _ => hf_bd (hf_ret (x4 - 1)) (fun x5_38 => f_X0_fillRow_40 rec_15 x0 x1 x3 x4 x5_38)))))
def f_X0_fillRow_15 (x0 x1 x3 x4 : Int) : hf_M Int := hf_fx (fun rec s => B_X0_fillRow_15 x0 x1 x3 rec s) hf_N x4
def f_X0_fillRow (x0 x1 x2 : Int) : hf_M Int :=
  hf_bd (hf_gf 0 0 x0) (fun v1 => hf_bd (hf_al 24 v1 x1) (fun v5 => hf_it (¬ v5 = 0) (f_X0_fillRow_15 x0 x1 v5 x2) (hf_ret 0)))
theorem cal_X0_fillRow : hf_cv M_X0_fillRow 0 2 := ⟨⟨ii_X0, kc_X0_fillRow, by decide, by decide, by decide +kernel⟩, ki_X0_fillRow, kv_X0_fillRow, _, rfl, rfl⟩
set_option maxRecDepth 20000 in
theorem jb_X0_fillRow_40 (x0 x1 x3 x4 : Int) (rec_15 : Int → hf_M Int) (hrec_15 : ∀ s : Int, hf_J M_X0_fillRow 15 [(0, 2, x0), (1, 0, x1), (3, 2, x3), (4, 0, s)] [] (rec_15 s)) (rec_40 : Int → hf_M Int) (hrec_40 : ∀ s : Int, hf_J M_X0_fillRow 40 [(0, 2, x0), (1, 0, x1), (3, 2, x3), (4, 0, x4), (5, 0, s)] [] (rec_40 s)) (x5 : Int) : hf_J M_X0_fillRow 40 [(0, 2, x0), (1, 0, x1), (3, 2, x3), (4, 0, x4), (5, 0, x5)] [] (B_X0_fillRow_40 rec_15 x0 x1 x3 x4 rec_40 x5) := by
  refine hf_ild (pc := 40) 4 rfl dX0_fillRow_40 ?_
  refine hf_if_lt (pc := 42) 69 dX0_fillRow_42 rfl ?_ ?_
  · refine hf_iincB (pc := 69) (fun y => [(4, 0, y), (0, 2, x0), (1, 0, x1), (3, 2, x3), (5, 0, x5)]) (q := 3) rfl (by decide) (fun _ => rfl) dX0_fillRow_69 (fun x4_69 => ?_)
    refine hf_goto (pc := 72) 15 dX0_fillRow_72 rfl ?_
    exact hf_sub [1, 2, 3, 0] rfl (hrec_15 x4_69)
  · refine hf_ald_n (pc := 45) 2 rfl rfl dX0_fillRow_45 ?_
    refine hf_ild (pc := 46) 4 rfl dX0_fillRow_46 ?_
    refine hf_ild (pc := 48) 3 rfl dX0_fillRow_48 ?_
    refine hf_cSN (pc := 50) (N := M_X11_spanAt) (ts := [0, 0]) (vs := [x5, x4]) (st := [(2, x3)]) (fun r => [(0, r), (2, x3)]) (c_X11_spanAt x5 x4) cal_X11_spanAt mn_X0_135 ⟨hf_le rfl, hf_le rfl⟩ (hf_le rfl) ⟨rfl, rfl⟩ rfl dX0_fillRow_50 (fun _ => rfl) (fun v50 => ?_)
    refine hf_ald_n (pc := 53) 0 rfl rfl dX0_fillRow_53 ?_
    refine hf_ild_n (pc := 54) 1 rfl rfl dX0_fillRow_54 ?_
    refine hf_ild (pc := 55) 4 rfl dX0_fillRow_55 ?_
    refine hf_ild (pc := 57) 3 rfl dX0_fillRow_57 ?_
    refine hf_cV (pc := 59) (N := M_X0_pick) (ts := [0, 0, 0]) (vs := [x1, x5, x4]) (st := [(0, v50), (2, x3)]) (fun r => [(0, r), (0, v50), (2, x3)]) (c_X0_pick x0 x1 x5 x4) cal_X0_pick ml_X0_91 ⟨hf_le rfl, hf_le rfl⟩ (hf_le rfl) ⟨rfl, rfl⟩ rfl dX0_fillRow_59 (fun _ => rfl) (fun v59 => ?_)
    refine hf_iast (pc := 62) dX0_fillRow_62 ?_
    refine hf_iincB (pc := 63) (fun y => [(5, 0, y), (0, 2, x0), (1, 0, x1), (3, 2, x3), (4, 0, x4)]) (q := 4) rfl (by decide) (fun _ => rfl) dX0_fillRow_63 (fun x5_63 => ?_)
    refine hf_goto (pc := 66) 40 dX0_fillRow_66 rfl ?_
    exact hf_sub [1, 2, 3, 4, 0] rfl (hrec_40 x5_63)
set_option maxRecDepth 20000 in
theorem j_X0_fillRow_40 (x0 x1 x3 x4 x5 : Int) (rec_15 : Int → hf_M Int) (hrec_15 : ∀ s : Int, hf_J M_X0_fillRow 15 [(0, 2, x0), (1, 0, x1), (3, 2, x3), (4, 0, s)] [] (rec_15 s)) : hf_J M_X0_fillRow 40 [(0, 2, x0), (1, 0, x1), (3, 2, x3), (4, 0, x4), (5, 0, x5)] [] (f_X0_fillRow_40 rec_15 x0 x1 x3 x4 x5) :=
  hf_Jfx (L := fun s => [(0, 2, x0), (1, 0, x1), (3, 2, x3), (4, 0, x4), (5, 0, s)]) (fun rec hrec s => jb_X0_fillRow_40 x0 x1 x3 x4 rec_15 hrec_15 rec hrec s) hf_N x5
set_option maxRecDepth 20000 in
theorem jb_X0_fillRow_15 (x0 x1 x3 : Int) (rec_15 : Int → hf_M Int) (hrec_15 : ∀ s : Int, hf_J M_X0_fillRow 15 [(0, 2, x0), (1, 0, x1), (3, 2, x3), (4, 0, s)] [] (rec_15 s)) (x4 : Int) : hf_J M_X0_fillRow 15 [(0, 2, x0), (1, 0, x1), (3, 2, x3), (4, 0, x4)] [] (B_X0_fillRow_15 x0 x1 x3 rec_15 x4) := by
  refine hf_ild (pc := 15) 3 rfl dX0_fillRow_15 ?_
  refine hf_ald_n (pc := 17) 0 rfl rfl dX0_fillRow_17 ?_
  refine hf_getf (pc := 18) fl_X0_30 dX0_fillRow_18 (fun v18 => ?_)
  refine hf_icmp_gt (pc := 21) 75 dX0_fillRow_21 rfl ?_ ?_
  · exact hf_Jret (pc := 75) dX0_fillRow_75 (fun _ => rfl)
  · refine hf_ald_n (pc := 24) 2 rfl rfl dX0_fillRow_24 ?_
    refine hf_ild (pc := 25) 3 rfl dX0_fillRow_25 ?_
    refine hf_ild (pc := 27) 3 rfl dX0_fillRow_27 ?_
    refine hf_cSN (pc := 29) (N := M_X11_spanAt) (ts := [0, 0]) (vs := [x4, x4]) (st := [(2, x3)]) (fun r => [(0, r), (2, x3)]) (c_X11_spanAt x4 x4) cal_X11_spanAt mn_X0_135 ⟨hf_le rfl, hf_le rfl⟩ (hf_le rfl) ⟨rfl, rfl⟩ rfl dX0_fillRow_29 (fun _ => rfl) (fun v29 => ?_)
    refine hf_iconst (pc := 32) dX0_fillRow_32 ?_
    refine hf_iast (pc := 33) dX0_fillRow_33 ?_
    refine hf_ild (pc := 34) 3 rfl dX0_fillRow_34 ?_
    refine hf_iconst (pc := 36) dX0_fillRow_36 ?_
    refine hf_isub (pc := 37) dX0_fillRow_37 ?_
    refine hf_istB (pc := 38) (fun y => [(5, 0, y), (0, 2, x0), (1, 0, x1), (3, 2, x3), (4, 0, x4)]) (by decide) (fun _ => rfl) dX0_fillRow_38 (fun x5_38 => ?_)
    exact hf_sub [1, 2, 3, 4, 0] rfl (j_X0_fillRow_40 x0 x1 x3 x4 x5_38 rec_15 hrec_15)
set_option maxRecDepth 20000 in
theorem j_X0_fillRow_15 (x0 x1 x3 x4 : Int) : hf_J M_X0_fillRow 15 [(0, 2, x0), (1, 0, x1), (3, 2, x3), (4, 0, x4)] [] (f_X0_fillRow_15 x0 x1 x3 x4) :=
  hf_Jfx (L := fun s => [(0, 2, x0), (1, 0, x1), (3, 2, x3), (4, 0, s)]) (fun rec hrec s => jb_X0_fillRow_15 x0 x1 x3 rec hrec s) hf_N x4
set_option maxRecDepth 20000 in
theorem c_X0_fillRow (x0 x1 x2 : Int) : hf_Met M_X0_fillRow [2, 0, 0] [x0, x1, x2] (f_X0_fillRow x0 x1 x2) := by
  refine hf_met rfl (by decide) (by decide) (by decide) ?_
  show hf_J M_X0_fillRow 0 [(0, 2, x0), (1, 0, x1), (2, 0, x2)] [] _
  refine hf_ald_n (pc := 0) 0 rfl rfl dX0_fillRow_0 ?_
  refine hf_getf (pc := 1) fl_X0_11 dX0_fillRow_1 (fun v1 => ?_)
  refine hf_ild_n (pc := 4) 1 rfl rfl dX0_fillRow_4 ?_
  refine hf_aald (pc := 5) dX0_fillRow_5 (fun v5 => ?_)
  refine hf_ast_n (pc := 6) (lv' := [(3, 2, v5), (0, 2, x0), (1, 0, x1), (2, 0, x2)]) rfl (by decide) rfl dX0_fillRow_6 ?_
  refine hf_ald_n (pc := 7) 0 rfl rfl dX0_fillRow_7 ?_
  refine hf_ifnonnull (pc := 8) 12 dX0_fillRow_8 rfl ?_ ?_
  · refine hf_ild_n (pc := 12) 3 rfl rfl dX0_fillRow_12 ?_
    refine hf_ist (pc := 13) (lv' := [(4, 0, x2), (3, 2, v5), (0, 2, x0), (1, 0, x1), (2, 0, x2)]) (by decide) rfl dX0_fillRow_13 ?_
    exact hf_sub [2, 3, 1, 0] rfl (j_X0_fillRow_15 x0 x1 v5 x2)
  · exact hf_Jret (pc := 11) dX0_fillRow_11 (fun _ => rfl)
/-! BestTable.fillUpTo(I)V -/
def M_X0_fillUpTo : hf_D := (yX0_fillUpTo, cX0_fillUpTo, 3, none, 4, 111)
def f_X0_fillUpTo_64 (rec_2 : Int → hf_M Int) (x0 x1 x2 : Int) : hf_M Int :=
  hf_bd (hf_ret (x2 + 1)) (fun x2_64 => rec_2 x2_64)
def f_X0_fillUpTo_48 (rec_2 : Int → hf_M Int) (x0 x1 x2 : Int) : hf_M Int :=
  hf_bd (hf_ob 0 x0 (f_X0_fillRow x0 x2 0)) (fun _ => hf_bd (hf_gf 0 1 x0) (fun v55 => hf_bd (hf_gf 0 2 x0) (fun v60 => hf_bd (hf_as 20 v55 x2 v60) (fun _ => f_X0_fillUpTo_64 rec_2 x0 x1 x2))))
def B_X0_fillUpTo_2 (x0 x1 : Int) (rec_2 : Int → hf_M Int) (x2 : Int) : hf_M Int :=
  hf_cb x2 x1 (x1 < x2) (hf_ret 0) (hf_bd (hf_gf 0 1 x0) (fun v8 => hf_bd (hf_al 20 v8 x2) (fun v12 => hf_bd (hf_gf 0 2 x0) (fun v14 => hf_cb v12 v14 (v12 = v14) (f_X0_fillUpTo_64 rec_2 x0 x1 x2) (hf_bd (f_X0_isPartOf x2 x1) (fun v22 => hf_cz v22 (v22 = 0) (f_X0_fillUpTo_64 rec_2 x0 x1 x2) (hf_bd (hf_gf 0 0 x0) (fun v29 => hf_bd (hf_al 24 v29 x2) (fun v33 => hf_it (¬ v33 = 0) (f_X0_fillUpTo_48 rec_2 x0 x1 x2) (hf_bd (hf_gf 0 0 x0) (fun v38 => hf_bd (hf_na 20 861) (fun v45 => hf_ob 20 v45 (hf_bd (hf_as 24 v38 x2 v45) (fun _ => f_X0_fillUpTo_48 rec_2 x0 x1 x2))))))))))))))
def f_X0_fillUpTo_2 (x0 x1 x2 : Int) : hf_M Int := hf_fx (fun rec s => B_X0_fillUpTo_2 x0 x1 rec s) hf_N x2
def f_X0_fillUpTo (x0 x1 : Int) : hf_M Int :=
  f_X0_fillUpTo_2 x0 x1 0
theorem cal_X0_fillUpTo : hf_cv M_X0_fillUpTo 0 1 := ⟨⟨ii_X0, kc_X0_fillUpTo, by decide, by decide, by decide +kernel⟩, ki_X0_fillUpTo, kv_X0_fillUpTo, _, rfl, rfl⟩
set_option maxRecDepth 20000 in
theorem j_X0_fillUpTo_64 (x0 x1 x2 : Int) (rec_2 : Int → hf_M Int) (hrec_2 : ∀ s : Int, hf_J M_X0_fillUpTo 2 [(0, 2, x0), (1, 0, x1), (2, 0, s)] [] (rec_2 s)) : hf_J M_X0_fillUpTo 64 [(0, 2, x0), (1, 0, x1), (2, 0, x2)] [] (f_X0_fillUpTo_64 rec_2 x0 x1 x2) := by
  refine hf_iincB (pc := 64) (fun y => [(2, 0, y), (0, 2, x0), (1, 0, x1)]) (q := 2) rfl (by decide) (fun _ => rfl) dX0_fillUpTo_64 (fun x2_64 => ?_)
  refine hf_goto (pc := 67) 2 dX0_fillUpTo_67 rfl ?_
  exact hf_sub [1, 2, 0] rfl (hrec_2 x2_64)
set_option maxRecDepth 20000 in
theorem j_X0_fillUpTo_48 (x0 x1 x2 : Int) (rec_2 : Int → hf_M Int) (hrec_2 : ∀ s : Int, hf_J M_X0_fillUpTo 2 [(0, 2, x0), (1, 0, x1), (2, 0, s)] [] (rec_2 s)) : hf_J M_X0_fillUpTo 48 [(0, 2, x0), (1, 0, x1), (2, 0, x2)] [] (f_X0_fillUpTo_48 rec_2 x0 x1 x2) := by
  refine hf_ald_n (pc := 48) 0 rfl rfl dX0_fillUpTo_48 ?_
  refine hf_ild_n (pc := 49) 2 rfl rfl dX0_fillUpTo_49 ?_
  refine hf_iconst (pc := 50) dX0_fillUpTo_50 ?_
  refine hf_cV (pc := 51) (N := M_X0_fillRow) (ts := [0, 0]) (vs := [x2, 0]) (st := []) (fun r => []) (c_X0_fillRow x0 x2 0) cal_X0_fillRow ml_X0_132 ⟨hf_le rfl, hf_le rfl⟩ (hf_le rfl) ⟨rfl, rfl⟩ rfl dX0_fillUpTo_51 (fun _ => rfl) (fun _ => ?_)
  refine hf_ald_n (pc := 54) 0 rfl rfl dX0_fillUpTo_54 ?_
  refine hf_getf (pc := 55) fl_X0_17 dX0_fillUpTo_55 (fun v55 => ?_)
  refine hf_ild_n (pc := 58) 2 rfl rfl dX0_fillUpTo_58 ?_
  refine hf_ald_n (pc := 59) 0 rfl rfl dX0_fillUpTo_59 ?_
  refine hf_getf (pc := 60) fl_X0_20 dX0_fillUpTo_60 (fun v60 => ?_)
  refine hf_iast (pc := 63) dX0_fillUpTo_63 ?_
  exact hf_sub [0, 1, 2] rfl (j_X0_fillUpTo_64 x0 x1 x2 rec_2 hrec_2)
set_option maxRecDepth 20000 in
theorem jb_X0_fillUpTo_2 (x0 x1 : Int) (rec_2 : Int → hf_M Int) (hrec_2 : ∀ s : Int, hf_J M_X0_fillUpTo 2 [(0, 2, x0), (1, 0, x1), (2, 0, s)] [] (rec_2 s)) (x2 : Int) : hf_J M_X0_fillUpTo 2 [(0, 2, x0), (1, 0, x1), (2, 0, x2)] [] (B_X0_fillUpTo_2 x0 x1 rec_2 x2) := by
  refine hf_ild_n (pc := 2) 2 rfl rfl dX0_fillUpTo_2 ?_
  refine hf_ild_n (pc := 3) 1 rfl rfl dX0_fillUpTo_3 ?_
  refine hf_icmp_gt (pc := 4) 70 dX0_fillUpTo_4 rfl ?_ ?_
  · exact hf_Jret (pc := 70) dX0_fillUpTo_70 (fun _ => rfl)
  · refine hf_ald_n (pc := 7) 0 rfl rfl dX0_fillUpTo_7 ?_
    refine hf_getf (pc := 8) fl_X0_17 dX0_fillUpTo_8 (fun v8 => ?_)
    refine hf_ild_n (pc := 11) 2 rfl rfl dX0_fillUpTo_11 ?_
    refine hf_iald (pc := 12) dX0_fillUpTo_12 (fun v12 => ?_)
    refine hf_ald_n (pc := 13) 0 rfl rfl dX0_fillUpTo_13 ?_
    refine hf_getf (pc := 14) fl_X0_20 dX0_fillUpTo_14 (fun v14 => ?_)
    refine hf_icmp_eq (pc := 17) 64 dX0_fillUpTo_17 rfl ?_ ?_
    · exact hf_sub [0, 1, 2] rfl (j_X0_fillUpTo_64 x0 x1 x2 rec_2 hrec_2)
    · refine hf_ild_n (pc := 20) 2 rfl rfl dX0_fillUpTo_20 ?_
      refine hf_ild_n (pc := 21) 1 rfl rfl dX0_fillUpTo_21 ?_
      refine hf_cS (pc := 22) (N := M_X0_isPartOf) (ts := [0, 0]) (vs := [x2, x1]) (st := []) (fun r => [(0, r)]) (c_X0_isPartOf x2 x1) cal_X0_isPartOf ml_X0_128 ⟨hf_le rfl, hf_le rfl⟩ (hf_le rfl) ⟨rfl, rfl⟩ rfl dX0_fillUpTo_22 (fun _ => rfl) (fun v22 => ?_)
      refine hf_if_eq (pc := 25) 64 dX0_fillUpTo_25 rfl ?_ ?_
      · exact hf_sub [0, 1, 2] rfl (j_X0_fillUpTo_64 x0 x1 x2 rec_2 hrec_2)
      · refine hf_ald_n (pc := 28) 0 rfl rfl dX0_fillUpTo_28 ?_
        refine hf_getf (pc := 29) fl_X0_11 dX0_fillUpTo_29 (fun v29 => ?_)
        refine hf_ild_n (pc := 32) 2 rfl rfl dX0_fillUpTo_32 ?_
        refine hf_aald (pc := 33) dX0_fillUpTo_33 (fun v33 => ?_)
        refine hf_ifnonnull (pc := 34) 48 dX0_fillUpTo_34 rfl ?_ ?_
        · exact hf_sub [0, 1, 2] rfl (j_X0_fillUpTo_48 x0 x1 x2 rec_2 hrec_2)
        · refine hf_ald_n (pc := 37) 0 rfl rfl dX0_fillUpTo_37 ?_
          refine hf_getf (pc := 38) fl_X0_11 dX0_fillUpTo_38 (fun v38 => ?_)
          refine hf_ild_n (pc := 41) 2 rfl rfl dX0_fillUpTo_41 ?_
          refine hf_sipush (pc := 42) dX0_fillUpTo_42 (by decide) ?_
          refine hf_newa0 (pc := 45) (tg := 20) (by decide) (by decide) rfl ac_int dX0_fillUpTo_45 (fun v45 => ?_)
          refine hf_aast (pc := 47) dX0_fillUpTo_47 ?_
          exact hf_sub [0, 1, 2] rfl (j_X0_fillUpTo_48 x0 x1 x2 rec_2 hrec_2)
set_option maxRecDepth 20000 in
theorem j_X0_fillUpTo_2 (x0 x1 x2 : Int) : hf_J M_X0_fillUpTo 2 [(0, 2, x0), (1, 0, x1), (2, 0, x2)] [] (f_X0_fillUpTo_2 x0 x1 x2) :=
  hf_Jfx (L := fun s => [(0, 2, x0), (1, 0, x1), (2, 0, s)]) (fun rec hrec s => jb_X0_fillUpTo_2 x0 x1 rec hrec s) hf_N x2
set_option maxRecDepth 20000 in
theorem c_X0_fillUpTo (x0 x1 : Int) : hf_Met M_X0_fillUpTo [2, 0] [x0, x1] (f_X0_fillUpTo x0 x1) := by
  refine hf_met rfl (by decide) (by decide) (by decide) ?_
  show hf_J M_X0_fillUpTo 0 [(0, 2, x0), (1, 0, x1)] [] _
  refine hf_iconst (pc := 0) dX0_fillUpTo_0 ?_
  refine hf_ist_n (pc := 1) (lv' := [(2, 0, 0), (0, 2, x0), (1, 0, x1)]) rfl (by decide) rfl dX0_fillUpTo_1 ?_
  exact hf_sub [1, 2, 0] rfl (j_X0_fillUpTo_2 x0 x1 0)
/-! BestTable.valueOf(III)J -/
def M_X0_valueOf : hf_D := (yX0_valueOf, cX0_valueOf, 5, some .long, 5, 133)
def f_X0_valueOf (x0 x1 x2 x3 : Int) : hf_M Int :=
  hf_cb x1 x2 (x1 < x2) (hf_bd (hf_ob 0 x0 (f_X0_fillUpTo x0 x3)) (fun _ => hf_bd (hf_ob 0 x0 (f_X0_pick x0 x3 x1 x2)) (fun v20 => hf_cb v20 1000000000 (v20 < 1000000000) (hf_ck (hf_inI v20) (hf_ret v20)) (hf_ret (-2))))) (hf_bd (hf_ob 0 x0 (f_X0_forgetFirst x0)) (fun _ => hf_ret 0))
theorem cal_X0_valueOf : hf_cv M_X0_valueOf 0 3 := ⟨⟨ii_X0, kc_X0_valueOf, by decide, by decide, by decide +kernel⟩, ki_X0_valueOf, kv_X0_valueOf, _, rfl, rfl⟩
set_option maxRecDepth 20000 in
theorem c_X0_valueOf (x0 x1 x2 x3 : Int) : hf_Met M_X0_valueOf [2, 0, 0, 0] [x0, x1, x2, x3] (f_X0_valueOf x0 x1 x2 x3) := by
  refine hf_met rfl (by decide) (by decide) (by decide) ?_
  show hf_J M_X0_valueOf 0 [(0, 2, x0), (1, 0, x1), (2, 0, x2), (3, 0, x3)] [] _
  refine hf_ild_n (pc := 0) 1 rfl rfl dX0_valueOf_0 ?_
  refine hf_ild_n (pc := 1) 2 rfl rfl dX0_valueOf_1 ?_
  refine hf_icmp_lt (pc := 2) 11 dX0_valueOf_2 rfl ?_ ?_
  · refine hf_ald_n (pc := 11) 0 rfl rfl dX0_valueOf_11 ?_
    refine hf_ild_n (pc := 12) 3 rfl rfl dX0_valueOf_12 ?_
    refine hf_cV (pc := 13) (N := M_X0_fillUpTo) (ts := [0]) (vs := [x3]) (st := []) (fun r => []) (c_X0_fillUpTo x0 x3) cal_X0_fillUpTo ml_X0_87 ⟨hf_le rfl, hf_le rfl⟩ (hf_le rfl) ⟨rfl, rfl⟩ rfl dX0_valueOf_13 (fun _ => rfl) (fun _ => ?_)
    refine hf_ald_n (pc := 16) 0 rfl rfl dX0_valueOf_16 ?_
    refine hf_ild_n (pc := 17) 3 rfl rfl dX0_valueOf_17 ?_
    refine hf_ild_n (pc := 18) 1 rfl rfl dX0_valueOf_18 ?_
    refine hf_ild_n (pc := 19) 2 rfl rfl dX0_valueOf_19 ?_
    refine hf_cV (pc := 20) (N := M_X0_pick) (ts := [0, 0, 0]) (vs := [x3, x1, x2]) (st := []) (fun r => [(0, r)]) (c_X0_pick x0 x3 x1 x2) cal_X0_pick ml_X0_91 ⟨hf_le rfl, hf_le rfl⟩ (hf_le rfl) ⟨rfl, rfl⟩ rfl dX0_valueOf_20 (fun _ => rfl) (fun v20 => ?_)
    refine hf_ist (pc := 23) (lv' := [(4, 0, v20), (0, 2, x0), (1, 0, x1), (2, 0, x2), (3, 0, x3)]) (by decide) rfl dX0_valueOf_23 ?_
    refine hf_ild (pc := 25) 0 rfl dX0_valueOf_25 ?_
    refine hf_ldc (pc := 27) (n := 1000000000) co_X0_61 (by decide) dX0_valueOf_27 ?_
    refine hf_icmp_lt (pc := 29) 38 dX0_valueOf_29 rfl ?_ ?_
    · refine hf_ild (pc := 38) 0 rfl dX0_valueOf_38 ?_
      refine hf_i2l (pc := 40) dX0_valueOf_40 ?_
      exact hf_Jret (pc := 41) dX0_valueOf_41 (fun _ => rfl)
    · refine hf_ldc2 (pc := 32) (n := (-2)) co_X0_95 (by decide) dX0_valueOf_32 ?_
      refine hf_goto (pc := 35) 41 dX0_valueOf_35 rfl ?_
      exact hf_Jret (pc := 41) dX0_valueOf_41 (fun _ => rfl)
  · refine hf_ald_n (pc := 5) 0 rfl rfl dX0_valueOf_5 ?_
    refine hf_cV (pc := 6) (N := M_X0_forgetFirst) (ts := []) (vs := []) (st := []) (fun r => []) (c_X0_forgetFirst x0) cal_X0_forgetFirst ml_X0_84 ⟨hf_le rfl, hf_le rfl⟩ (hf_le rfl) ⟨rfl, rfl⟩ rfl dX0_valueOf_6 (fun _ => rfl) (fun _ => ?_)
    refine hf_lconst (pc := 9) (v := 0) dX0_valueOf_9 (by decide) ?_
    exact hf_Jret (pc := 10) dX0_valueOf_10 (fun _ => rfl)
/-! BestTable.fillAgain(II)V -/
def M_X0_fillAgain : hf_D := (yX0_fillAgain, cX0_fillAgain, 4, none, 4, 111)
def f_X0_fillAgain_41 (rec_2 : Int → hf_M Int) (x0 x1 x2 x3 : Int) : hf_M Int :=
  hf_bd (hf_ret (x3 + 1)) (fun x3_41 => rec_2 x3_41)
def f_X0_fillAgain_38 (rec_2 : Int → hf_M Int) (x0 x1 x2 x3 s0 s1 s2 : Int) : hf_M Int :=
  hf_bd (hf_ob 0 s0 (f_X0_fillRow s0 s1 s2)) (fun _ => f_X0_fillAgain_41 rec_2 x0 x1 x2 x3)
def B_X0_fillAgain_2 (x0 x1 x2 : Int) (rec_2 : Int → hf_M Int) (x3 : Int) : hf_M Int :=
  hf_cb x3 x1 (x1 < x3) (hf_ret 0) (hf_bd (f_X0_isPartOf x3 x1) (fun v9 => hf_cz v9 (v9 = 0) (f_X0_fillAgain_41 rec_2 x0 x1 x2 x3) (hf_bd (f_X0_piecesIn x3 x2) (fun v17 => hf_cz v17 (v17 ≤ 0) (f_X0_fillAgain_41 rec_2 x0 x1 x2 x3) (hf_cb x3 x1 (¬ x3 = x1) (f_X0_fillAgain_38 rec_2 x0 x1 x2 x3 x0 x3 0) (hf_bd (hf_gf 0 5 x0) (fun v31 => f_X0_fillAgain_38 rec_2 x0 x1 x2 x3 x0 x3 v31)))))))
def f_X0_fillAgain_2 (x0 x1 x2 x3 : Int) : hf_M Int := hf_fx (fun rec s => B_X0_fillAgain_2 x0 x1 x2 rec s) hf_N x3
def f_X0_fillAgain (x0 x1 x2 : Int) : hf_M Int :=
  f_X0_fillAgain_2 x0 x1 x2 0
theorem cal_X0_fillAgain : hf_cv M_X0_fillAgain 0 2 := ⟨⟨ii_X0, kc_X0_fillAgain, by decide, by decide, by decide +kernel⟩, ki_X0_fillAgain, kv_X0_fillAgain, _, rfl, rfl⟩
set_option maxRecDepth 20000 in
theorem j_X0_fillAgain_41 (x0 x1 x2 x3 : Int) (rec_2 : Int → hf_M Int) (hrec_2 : ∀ s : Int, hf_J M_X0_fillAgain 2 [(0, 2, x0), (1, 0, x1), (2, 0, x2), (3, 0, s)] [] (rec_2 s)) : hf_J M_X0_fillAgain 41 [(0, 2, x0), (1, 0, x1), (2, 0, x2), (3, 0, x3)] [] (f_X0_fillAgain_41 rec_2 x0 x1 x2 x3) := by
  refine hf_iincB (pc := 41) (fun y => [(3, 0, y), (0, 2, x0), (1, 0, x1), (2, 0, x2)]) (q := 3) rfl (by decide) (fun _ => rfl) dX0_fillAgain_41 (fun x3_41 => ?_)
  refine hf_goto (pc := 44) 2 dX0_fillAgain_44 rfl ?_
  exact hf_sub [1, 2, 3, 0] rfl (hrec_2 x3_41)
set_option maxRecDepth 20000 in
theorem j_X0_fillAgain_38 (x0 x1 x2 x3 s0 s1 s2 : Int) (rec_2 : Int → hf_M Int) (hrec_2 : ∀ s : Int, hf_J M_X0_fillAgain 2 [(0, 2, x0), (1, 0, x1), (2, 0, x2), (3, 0, s)] [] (rec_2 s)) : hf_J M_X0_fillAgain 38 [(0, 2, x0), (1, 0, x1), (2, 0, x2), (3, 0, x3)] [(0, s2), (0, s1), (2, s0)] (f_X0_fillAgain_38 rec_2 x0 x1 x2 x3 s0 s1 s2) := by
  refine hf_cV (pc := 38) (N := M_X0_fillRow) (ts := [0, 0]) (vs := [s1, s2]) (st := []) (fun r => []) (c_X0_fillRow s0 s1 s2) cal_X0_fillRow ml_X0_132 ⟨hf_le rfl, hf_le rfl⟩ (hf_le rfl) ⟨rfl, rfl⟩ rfl dX0_fillAgain_38 (fun _ => rfl) (fun _ => ?_)
  exact hf_sub [0, 1, 2, 3] rfl (j_X0_fillAgain_41 x0 x1 x2 x3 rec_2 hrec_2)
set_option maxRecDepth 20000 in
theorem jb_X0_fillAgain_2 (x0 x1 x2 : Int) (rec_2 : Int → hf_M Int) (hrec_2 : ∀ s : Int, hf_J M_X0_fillAgain 2 [(0, 2, x0), (1, 0, x1), (2, 0, x2), (3, 0, s)] [] (rec_2 s)) (x3 : Int) : hf_J M_X0_fillAgain 2 [(0, 2, x0), (1, 0, x1), (2, 0, x2), (3, 0, x3)] [] (B_X0_fillAgain_2 x0 x1 x2 rec_2 x3) := by
  refine hf_ild_n (pc := 2) 3 rfl rfl dX0_fillAgain_2 ?_
  refine hf_ild_n (pc := 3) 1 rfl rfl dX0_fillAgain_3 ?_
  refine hf_icmp_gt (pc := 4) 47 dX0_fillAgain_4 rfl ?_ ?_
  · exact hf_Jret (pc := 47) dX0_fillAgain_47 (fun _ => rfl)
  · refine hf_ild_n (pc := 7) 3 rfl rfl dX0_fillAgain_7 ?_
    refine hf_ild_n (pc := 8) 1 rfl rfl dX0_fillAgain_8 ?_
    refine hf_cS (pc := 9) (N := M_X0_isPartOf) (ts := [0, 0]) (vs := [x3, x1]) (st := []) (fun r => [(0, r)]) (c_X0_isPartOf x3 x1) cal_X0_isPartOf ml_X0_128 ⟨hf_le rfl, hf_le rfl⟩ (hf_le rfl) ⟨rfl, rfl⟩ rfl dX0_fillAgain_9 (fun _ => rfl) (fun v9 => ?_)
    refine hf_if_eq (pc := 12) 41 dX0_fillAgain_12 rfl ?_ ?_
    · exact hf_sub [0, 1, 2, 3] rfl (j_X0_fillAgain_41 x0 x1 x2 x3 rec_2 hrec_2)
    · refine hf_ild_n (pc := 15) 3 rfl rfl dX0_fillAgain_15 ?_
      refine hf_ild_n (pc := 16) 2 rfl rfl dX0_fillAgain_16 ?_
      refine hf_cS (pc := 17) (N := M_X0_piecesIn) (ts := [0, 0]) (vs := [x3, x2]) (st := []) (fun r => [(0, r)]) (c_X0_piecesIn x3 x2) cal_X0_piecesIn ml_X0_125 ⟨hf_le rfl, hf_le rfl⟩ (hf_le rfl) ⟨rfl, rfl⟩ rfl dX0_fillAgain_17 (fun _ => rfl) (fun v17 => ?_)
      refine hf_if_le (pc := 20) 41 dX0_fillAgain_20 rfl ?_ ?_
      · exact hf_sub [0, 1, 2, 3] rfl (j_X0_fillAgain_41 x0 x1 x2 x3 rec_2 hrec_2)
      · refine hf_ald_n (pc := 23) 0 rfl rfl dX0_fillAgain_23 ?_
        refine hf_ild_n (pc := 24) 3 rfl rfl dX0_fillAgain_24 ?_
        refine hf_ild_n (pc := 25) 3 rfl rfl dX0_fillAgain_25 ?_
        refine hf_ild_n (pc := 26) 1 rfl rfl dX0_fillAgain_26 ?_
        refine hf_icmp_ne (pc := 27) 37 dX0_fillAgain_27 rfl ?_ ?_
        · refine hf_iconst (pc := 37) dX0_fillAgain_37 ?_
          exact hf_sub [0, 1, 2, 3] rfl (j_X0_fillAgain_38 x0 x1 x2 x3 x0 x3 0 rec_2 hrec_2)
        · refine hf_ald_n (pc := 30) 0 rfl rfl dX0_fillAgain_30 ?_
          refine hf_getf (pc := 31) fl_X0_30 dX0_fillAgain_31 (fun v31 => ?_)
          refine hf_goto (pc := 34) 38 dX0_fillAgain_34 rfl ?_
          exact hf_sub [0, 1, 2, 3] rfl (j_X0_fillAgain_38 x0 x1 x2 x3 x0 x3 v31 rec_2 hrec_2)
set_option maxRecDepth 20000 in
theorem j_X0_fillAgain_2 (x0 x1 x2 x3 : Int) : hf_J M_X0_fillAgain 2 [(0, 2, x0), (1, 0, x1), (2, 0, x2), (3, 0, x3)] [] (f_X0_fillAgain_2 x0 x1 x2 x3) :=
  hf_Jfx (L := fun s => [(0, 2, x0), (1, 0, x1), (2, 0, x2), (3, 0, s)]) (fun rec hrec s => jb_X0_fillAgain_2 x0 x1 x2 rec hrec s) hf_N x3
set_option maxRecDepth 20000 in
theorem c_X0_fillAgain (x0 x1 x2 : Int) : hf_Met M_X0_fillAgain [2, 0, 0] [x0, x1, x2] (f_X0_fillAgain x0 x1 x2) := by
  refine hf_met rfl (by decide) (by decide) (by decide) ?_
  show hf_J M_X0_fillAgain 0 [(0, 2, x0), (1, 0, x1), (2, 0, x2)] [] _
  refine hf_iconst (pc := 0) dX0_fillAgain_0 ?_
  refine hf_ist_n (pc := 1) (lv' := [(3, 0, 0), (0, 2, x0), (1, 0, x1), (2, 0, x2)]) rfl (by decide) rfl dX0_fillAgain_1 ?_
  exact hf_sub [1, 2, 3, 0] rfl (j_X0_fillAgain_2 x0 x1 x2 0)
/-! BestTable.seek(III)V -/
def M_X0_seek : hf_D := (yX0_seek, cX0_seek, 6, none, 5, 134)
def f_X0_seek_62 (x0 x1 x4 s0 : Int) : hf_M Int :=
  hf_bd (hf_gf 0 12 x0) (fun v65 => hf_ck (hf_inI s0) (hf_bd (hf_ret (if s0 = 0 then (-2) else x4)) (fun w81 => hf_bd (hf_as 20 v65 x1 w81) (fun _ => hf_ret 0))))
def f_X0_seek (x0 x1 x2 x3 : Int) : hf_M Int :=
  hf_bd (hf_gf 0 12 x0) (fun v1 => hf_bd (hf_al 20 v1 x1) (fun v5 => hf_cb v5 (-1) (¬ v5 = (-1)) (hf_ret 0) (hf_bd (hf_gf 0 10 x0) (fun v11 => hf_bd (hf_as 20 v11 x2 x1) (fun _ => hf_bd (hf_ob 0 x0 (f_X0_fillAgain x0 x3 x2)) (fun _ => hf_bd (hf_gf 0 5 x0) (fun v27 => hf_bd (hf_ob 0 x0 (f_X0_pick x0 x3 0 v27)) (fun v30 => hf_bd (hf_gf 0 16 x0) (fun v36 => hf_bd (hf_gf 0 13 x0) (fun v40 => hf_cb v36 v40 (¬ v36 = v40) (f_X0_seek_62 x0 x1 v30 0) (hf_bd (hf_gf 0 17 x0) (fun v47 => hf_bd (hf_gf 0 14 x0) (fun v51 => hf_cb v47 v51 (¬ v47 = v51) (f_X0_seek_62 x0 x1 v30 0) (f_X0_seek_62 x0 x1 v30 1))))))))))))))
theorem cal_X0_seek : hf_cv M_X0_seek 0 3 := ⟨⟨ii_X0, kc_X0_seek, by decide, by decide, by decide +kernel⟩, ki_X0_seek, kv_X0_seek, _, rfl, rfl⟩
set_option maxRecDepth 20000 in
theorem j_X0_seek_62 (x0 x1 x4 s0 : Int) : hf_J M_X0_seek 62 [(0, 2, x0), (1, 0, x1), (4, 0, x4)] [(0, s0)] (f_X0_seek_62 x0 x1 x4 s0) := by
  refine hf_ist (pc := 62) (lv' := [(5, 0, s0), (0, 2, x0), (1, 0, x1), (4, 0, x4)]) (by decide) rfl dX0_seek_62 ?_
  refine hf_ald_n (pc := 64) 1 rfl rfl dX0_seek_64 ?_
  refine hf_getf (pc := 65) fl_X0_52 dX0_seek_65 (fun v65 => ?_)
  refine hf_ild_n (pc := 68) 2 rfl rfl dX0_seek_68 ?_
  refine hf_ild (pc := 69) 0 rfl dX0_seek_69 ?_
  refine hf_Jdiz (pc := 71) (pcM := 81) (t := 0) (stM := [(0, x1), (2, v65)]) (fun w81 => ?_) (fun a1 a2 => ?_)
  · refine hf_iast (pc := 81) dX0_seek_81 ?_
    exact hf_Jret (pc := 82) dX0_seek_82 (fun _ => rfl)
  · refine hf_if_eq (pc := 71) 79 dX0_seek_71 rfl ?_ ?_
    · refine hf_bipush (pc := 79) dX0_seek_79 (by decide) ?_
      exact a1
    · refine hf_ild (pc := 74) 3 rfl dX0_seek_74 ?_
      refine hf_goto (pc := 76) 81 dX0_seek_76 rfl ?_
      exact a2
set_option maxRecDepth 20000 in
theorem c_X0_seek (x0 x1 x2 x3 : Int) : hf_Met M_X0_seek [2, 0, 0, 0] [x0, x1, x2, x3] (f_X0_seek x0 x1 x2 x3) := by
  refine hf_met rfl (by decide) (by decide) (by decide) ?_
  show hf_J M_X0_seek 0 [(0, 2, x0), (1, 0, x1), (2, 0, x2), (3, 0, x3)] [] _
  refine hf_ald_n (pc := 0) 0 rfl rfl dX0_seek_0 ?_
  refine hf_getf (pc := 1) fl_X0_52 dX0_seek_1 (fun v1 => ?_)
  refine hf_ild_n (pc := 4) 1 rfl rfl dX0_seek_4 ?_
  refine hf_iald (pc := 5) dX0_seek_5 (fun v5 => ?_)
  refine hf_iconst (pc := 6) dX0_seek_6 ?_
  refine hf_icmp_ne (pc := 7) 82 dX0_seek_7 rfl ?_ ?_
  · exact hf_Jret (pc := 82) dX0_seek_82 (fun _ => rfl)
  · refine hf_ald_n (pc := 10) 0 rfl rfl dX0_seek_10 ?_
    refine hf_getf (pc := 11) fl_X0_46 dX0_seek_11 (fun v11 => ?_)
    refine hf_ild_n (pc := 14) 2 rfl rfl dX0_seek_14 ?_
    refine hf_ild_n (pc := 15) 1 rfl rfl dX0_seek_15 ?_
    refine hf_iast (pc := 16) dX0_seek_16 ?_
    refine hf_ald_n (pc := 17) 0 rfl rfl dX0_seek_17 ?_
    refine hf_ild_n (pc := 18) 3 rfl rfl dX0_seek_18 ?_
    refine hf_ild_n (pc := 19) 2 rfl rfl dX0_seek_19 ?_
    refine hf_cV (pc := 20) (N := M_X0_fillAgain) (ts := [0, 0]) (vs := [x3, x2]) (st := []) (fun r => []) (c_X0_fillAgain x0 x3 x2) cal_X0_fillAgain ml_X0_117 ⟨hf_le rfl, hf_le rfl⟩ (hf_le rfl) ⟨rfl, rfl⟩ rfl dX0_seek_20 (fun _ => rfl) (fun _ => ?_)
    refine hf_ald_n (pc := 23) 0 rfl rfl dX0_seek_23 ?_
    refine hf_ild_n (pc := 24) 3 rfl rfl dX0_seek_24 ?_
    refine hf_iconst (pc := 25) dX0_seek_25 ?_
    refine hf_ald_n (pc := 26) 0 rfl rfl dX0_seek_26 ?_
    refine hf_getf (pc := 27) fl_X0_30 dX0_seek_27 (fun v27 => ?_)
    refine hf_cV (pc := 30) (N := M_X0_pick) (ts := [0, 0, 0]) (vs := [x3, 0, v27]) (st := []) (fun r => [(0, r)]) (c_X0_pick x0 x3 0 v27) cal_X0_pick ml_X0_91 ⟨hf_le rfl, hf_le rfl⟩ (hf_le rfl) ⟨rfl, rfl⟩ rfl dX0_seek_30 (fun _ => rfl) (fun v30 => ?_)
    refine hf_ist (pc := 33) (lv' := [(4, 0, v30), (0, 2, x0), (1, 0, x1), (2, 0, x2), (3, 0, x3)]) (by decide) rfl dX0_seek_33 ?_
    refine hf_ald_n (pc := 35) 1 rfl rfl dX0_seek_35 ?_
    refine hf_getf (pc := 36) fl_X0_65 dX0_seek_36 (fun v36 => ?_)
    refine hf_ald_n (pc := 39) 1 rfl rfl dX0_seek_39 ?_
    refine hf_getf (pc := 40) fl_X0_55 dX0_seek_40 (fun v40 => ?_)
    refine hf_icmp_ne (pc := 43) 61 dX0_seek_43 rfl ?_ ?_
    · refine hf_iconst (pc := 61) dX0_seek_61 ?_
      exact hf_sub [1, 2, 0] rfl (j_X0_seek_62 x0 x1 v30 0)
    · refine hf_ald_n (pc := 46) 1 rfl rfl dX0_seek_46 ?_
      refine hf_getf (pc := 47) fl_X0_68 dX0_seek_47 (fun v47 => ?_)
      refine hf_ald_n (pc := 50) 1 rfl rfl dX0_seek_50 ?_
      refine hf_getf (pc := 51) fl_X0_58 dX0_seek_51 (fun v51 => ?_)
      refine hf_icmp_ne (pc := 54) 61 dX0_seek_54 rfl ?_ ?_
      · refine hf_iconst (pc := 61) dX0_seek_61 ?_
        exact hf_sub [1, 2, 0] rfl (j_X0_seek_62 x0 x1 v30 0)
      · refine hf_iconst (pc := 57) dX0_seek_57 ?_
        refine hf_goto (pc := 58) 62 dX0_seek_58 rfl ?_
        exact hf_sub [1, 2, 0] rfl (j_X0_seek_62 x0 x1 v30 1)
/-! BestTable.staysBetween(III)Z -/
def M_X0_staysBetween : hf_D := (yX0_staysBetween, cX0_staysBetween, 8, some .boolean, 0, 0)
def f_X0_staysBetween (x0 x1 x2 x3 : Int) : hf_M Int :=
  hf_bd (hf_gf 0 12 x0) (fun v1 => hf_bd (hf_al 20 v1 x3) (fun v5 => hf_cb v5 (-2) (¬ v5 = (-2)) (hf_bd (hf_gf 0 12 x0) (fun v14 => hf_bd (hf_al 20 v14 x3) (fun v18 => hf_bd (hf_gf 0 12 x0) (fun v20 => hf_bd (hf_al 20 v20 x1) (fun v24 => hf_cb v18 v24 (¬ v18 = v24) (hf_bd (hf_gf 0 6 x0) (fun v31 => hf_cz v31 (v31 = 0) (hf_ret 0) (hf_bd (hf_gf 0 12 x0) (fun v38 => hf_bd (hf_al 20 v38 x2) (fun v42 => hf_cb v42 (-2) (¬ v42 = (-2)) (hf_bd (hf_gf 0 12 x0) (fun v51 => hf_bd (hf_al 20 v51 x2) (fun v55 => hf_bd (hf_gf 0 12 x0) (fun v57 => hf_bd (hf_al 20 v57 x1) (fun v61 => hf_ck (hf_inI (v55 - v61)) (hf_bd (hf_ret (v55 - v61)) (fun x4_64 => hf_bd (hf_gf 0 12 x0) (fun v67 => hf_bd (hf_al 20 v67 x3) (fun v71 => hf_bd (hf_gf 0 12 x0) (fun v73 => hf_bd (hf_al 20 v73 x2) (fun v77 => hf_ck (hf_inI (v71 - v77)) (hf_bd (hf_ret (v71 - v77)) (fun x6_80 => hf_ck (hf_inI (x3 - x2)) (hf_ck (hf_inI (x2 - x1)) (hf_ck (hf_inL (x4_64 * (x3 - x2)) ∧ hf_inL (x6_80 * (x2 - x1))) (hf_bd (hf_ret (if ¬ (x4_64 * (x3 - x2)) = (x6_80 * (x2 - x1)) then 0 else 1)) (fun w105 => hf_ck (w105 = 0 ∨ w105 = 1) (hf_ret w105)))))))))))))))))) (hf_ret 0)))))) (hf_ret 1)))))) (hf_ret 0)))
theorem cal_X0_staysBetween : hf_cv M_X0_staysBetween 0 3 := ⟨⟨ii_X0, kc_X0_staysBetween, by decide, by decide, by decide +kernel⟩, ki_X0_staysBetween, kv_X0_staysBetween, _, rfl, rfl⟩
set_option maxRecDepth 20000 in
theorem c_X0_staysBetween (x0 x1 x2 x3 : Int) : hf_Met M_X0_staysBetween [2, 0, 0, 0] [x0, x1, x2, x3] (f_X0_staysBetween x0 x1 x2 x3) := by
  refine hf_met rfl (by decide) (by decide) (by decide) ?_
  show hf_J M_X0_staysBetween 0 [(0, 2, x0), (1, 0, x1), (2, 0, x2), (3, 0, x3)] [] _
  refine hf_ald_n (pc := 0) 0 rfl rfl dX0_staysBetween_0 ?_
  refine hf_getf (pc := 1) fl_X0_52 dX0_staysBetween_1 (fun v1 => ?_)
  refine hf_ild_n (pc := 4) 3 rfl rfl dX0_staysBetween_4 ?_
  refine hf_iald (pc := 5) dX0_staysBetween_5 (fun v5 => ?_)
  refine hf_bipush (pc := 6) dX0_staysBetween_6 (by decide) ?_
  refine hf_icmp_ne (pc := 8) 13 dX0_staysBetween_8 rfl ?_ ?_
  · refine hf_ald_n (pc := 13) 0 rfl rfl dX0_staysBetween_13 ?_
    refine hf_getf (pc := 14) fl_X0_52 dX0_staysBetween_14 (fun v14 => ?_)
    refine hf_ild_n (pc := 17) 3 rfl rfl dX0_staysBetween_17 ?_
    refine hf_iald (pc := 18) dX0_staysBetween_18 (fun v18 => ?_)
    refine hf_ald_n (pc := 19) 0 rfl rfl dX0_staysBetween_19 ?_
    refine hf_getf (pc := 20) fl_X0_52 dX0_staysBetween_20 (fun v20 => ?_)
    refine hf_ild_n (pc := 23) 1 rfl rfl dX0_staysBetween_23 ?_
    refine hf_iald (pc := 24) dX0_staysBetween_24 (fun v24 => ?_)
    refine hf_icmp_ne (pc := 25) 30 dX0_staysBetween_25 rfl ?_ ?_
    · refine hf_ald_n (pc := 30) 0 rfl rfl dX0_staysBetween_30 ?_
      refine hf_getf (pc := 31) fl_X0_33 dX0_staysBetween_31 (fun v31 => ?_)
      refine hf_if_eq (pc := 34) 48 dX0_staysBetween_34 rfl ?_ ?_
      · refine hf_iconst (pc := 48) dX0_staysBetween_48 ?_
        exact hf_Jret (pc := 49) (r := 0) ⟨dX0_staysBetween_49, Or.inl rfl⟩ (fun _ => rfl)
      · refine hf_ald_n (pc := 37) 0 rfl rfl dX0_staysBetween_37 ?_
        refine hf_getf (pc := 38) fl_X0_52 dX0_staysBetween_38 (fun v38 => ?_)
        refine hf_ild_n (pc := 41) 2 rfl rfl dX0_staysBetween_41 ?_
        refine hf_iald (pc := 42) dX0_staysBetween_42 (fun v42 => ?_)
        refine hf_bipush (pc := 43) dX0_staysBetween_43 (by decide) ?_
        refine hf_icmp_ne (pc := 45) 50 dX0_staysBetween_45 rfl ?_ ?_
        · refine hf_ald_n (pc := 50) 0 rfl rfl dX0_staysBetween_50 ?_
          refine hf_getf (pc := 51) fl_X0_52 dX0_staysBetween_51 (fun v51 => ?_)
          refine hf_ild_n (pc := 54) 2 rfl rfl dX0_staysBetween_54 ?_
          refine hf_iald (pc := 55) dX0_staysBetween_55 (fun v55 => ?_)
          refine hf_ald_n (pc := 56) 0 rfl rfl dX0_staysBetween_56 ?_
          refine hf_getf (pc := 57) fl_X0_52 dX0_staysBetween_57 (fun v57 => ?_)
          refine hf_ild_n (pc := 60) 1 rfl rfl dX0_staysBetween_60 ?_
          refine hf_iald (pc := 61) dX0_staysBetween_61 (fun v61 => ?_)
          refine hf_isub (pc := 62) dX0_staysBetween_62 ?_
          refine hf_i2l (pc := 63) dX0_staysBetween_63 ?_
          refine hf_lstB (pc := 64) (fun y => [(4, 1, y), (0, 2, x0), (1, 0, x1), (2, 0, x2), (3, 0, x3)]) (by decide) (fun _ => rfl) dX0_staysBetween_64 (fun x4_64 => ?_)
          refine hf_ald_n (pc := 66) 1 rfl rfl dX0_staysBetween_66 ?_
          refine hf_getf (pc := 67) fl_X0_52 dX0_staysBetween_67 (fun v67 => ?_)
          refine hf_ild_n (pc := 70) 4 rfl rfl dX0_staysBetween_70 ?_
          refine hf_iald (pc := 71) dX0_staysBetween_71 (fun v71 => ?_)
          refine hf_ald_n (pc := 72) 1 rfl rfl dX0_staysBetween_72 ?_
          refine hf_getf (pc := 73) fl_X0_52 dX0_staysBetween_73 (fun v73 => ?_)
          refine hf_ild_n (pc := 76) 3 rfl rfl dX0_staysBetween_76 ?_
          refine hf_iald (pc := 77) dX0_staysBetween_77 (fun v77 => ?_)
          refine hf_isub (pc := 78) dX0_staysBetween_78 ?_
          refine hf_i2l (pc := 79) dX0_staysBetween_79 ?_
          refine hf_lstB (pc := 80) (fun y => [(6, 1, y), (4, 1, x4_64), (0, 2, x0), (1, 0, x1), (2, 0, x2), (3, 0, x3)]) (by decide) (fun _ => rfl) dX0_staysBetween_80 (fun x6_80 => ?_)
          refine hf_lld (pc := 82) 1 rfl dX0_staysBetween_82 ?_
          refine hf_ild_n (pc := 84) 5 rfl rfl dX0_staysBetween_84 ?_
          refine hf_ild_n (pc := 85) 4 rfl rfl dX0_staysBetween_85 ?_
          refine hf_isub (pc := 86) dX0_staysBetween_86 ?_
          refine hf_i2l (pc := 87) dX0_staysBetween_87 ?_
          refine hf_lmul (pc := 88) dX0_staysBetween_88 ?_
          refine hf_lld (pc := 89) 0 rfl dX0_staysBetween_89 ?_
          refine hf_ild_n (pc := 91) 4 rfl rfl dX0_staysBetween_91 ?_
          refine hf_ild_n (pc := 92) 3 rfl rfl dX0_staysBetween_92 ?_
          refine hf_isub (pc := 93) dX0_staysBetween_93 ?_
          refine hf_i2l (pc := 94) dX0_staysBetween_94 ?_
          refine hf_lmul (pc := 95) dX0_staysBetween_95 ?_
          refine hf_Jdil (pc := 96) (pcM := 105) (t := 0) (stM := []) (fun w105 => ?_) (fun a1 a2 => ?_)
          · refine hf_Jck (fun hz => ?_)
            exact hf_Jret (pc := 105) ⟨dX0_staysBetween_105, hz⟩ (fun _ => rfl)
          · refine hf_lcm_ne (pc := 96) 104 dX0_staysBetween_96 dX0_staysBetween_97 rfl ?_ ?_
            · refine hf_iconst (pc := 104) dX0_staysBetween_104 ?_
              exact a1
            · refine hf_iconst (pc := 100) dX0_staysBetween_100 ?_
              refine hf_goto (pc := 101) 105 dX0_staysBetween_101 rfl ?_
              exact a2
        · refine hf_iconst (pc := 48) dX0_staysBetween_48 ?_
          exact hf_Jret (pc := 49) (r := 0) ⟨dX0_staysBetween_49, Or.inl rfl⟩ (fun _ => rfl)
    · refine hf_iconst (pc := 28) dX0_staysBetween_28 ?_
      exact hf_Jret (pc := 29) (r := 1) ⟨dX0_staysBetween_29, Or.inr rfl⟩ (fun _ => rfl)
  · refine hf_iconst (pc := 11) dX0_staysBetween_11 ?_
    exact hf_Jret (pc := 12) (r := 0) ⟨dX0_staysBetween_12, Or.inl rfl⟩ (fun _ => rfl)
/-! BestTable.edgeOf(II)I -/
def M_X0_edgeOf : hf_D := (yX0_edgeOf, cX0_edgeOf, 9, some .int, 6, 159)
def f_X0_edgeOf_209 (rec_51 : Int × Int × Int × Int → hf_M Int) (x0 x1 x2 x3 x4 x5 x6 : Int) : hf_M Int :=
  hf_bd (hf_ret (x6 + 1)) (fun x6_209 => rec_51 (x3, x4, x5, x6_209))
def f_X0_edgeOf_189 (rec_51 : Int × Int × Int × Int → hf_M Int) (x0 x1 x2 x4 x5 x6 x7 : Int) : hf_M Int :=
  hf_bd (hf_ret (x4 * 2)) (fun x4_196 => f_X0_edgeOf_209 rec_51 x0 x1 x2 x7 x4_196 x5 x6)
def f_X0_edgeOf_169 (rec_51 : Int × Int × Int × Int → hf_M Int) (x0 x1 x2 x3 x4 x5 x6 x7 x8 : Int) : hf_M Int :=
  hf_cb x7 (x3 + 1) (x7 = (x3 + 1)) (f_X0_edgeOf_189 rec_51 x0 x1 x2 x4 x5 x6 x7) (hf_bd (hf_ob 0 x0 (f_X0_staysBetween x0 x3 x8 x7)) (fun v183 => hf_cz v183 (v183 = 0) (hf_bd (hf_dv (x7 - x3) 2) (fun v206 => f_X0_edgeOf_209 rec_51 x0 x1 x2 x3 v206 x5 x6)) (f_X0_edgeOf_189 rec_51 x0 x1 x2 x4 x5 x6 x7)))
def f_X0_edgeOf_142 (rec_51 : Int × Int × Int × Int → hf_M Int) (x0 x1 x2 x3 x4 x5 x6 x7 x8 : Int) : hf_M Int :=
  hf_cb x7 (x3 + 1) (¬ x7 = (x3 + 1)) (f_X0_edgeOf_169 rec_51 x0 x1 x2 x3 x4 x5 x6 x7 x8) (hf_bd (hf_gf 0 12 x0) (fun v151 => hf_bd (hf_al 20 v151 x7) (fun v156 => hf_cb v156 (-2) (¬ v156 = (-2)) (f_X0_edgeOf_169 rec_51 x0 x1 x2 x3 x4 x5 x6 x7 x8) (f_X0_edgeOf_209 rec_51 x0 x1 x2 x3 x4 x7 x6))))
def f_X0_edgeOf_215 (x0 x5 : Int) : hf_M Int :=
  hf_bd (hf_pf 0 3 x0 (-1)) (fun _ => hf_ret x5)
def B_X0_edgeOf_51 (x0 x1 x2 : Int) (rec_51 : Int × Int × Int × Int → hf_M Int) (x3 x4 x5 x6 : Int) : hf_M Int :=
  hf_cb x6 990 (990 ≤ x6) (f_X0_edgeOf_215 x0 x5) (hf_cb x3 99 (99 ≤ x3) (f_X0_edgeOf_215 x0 x5) (hf_cb x5 99 (x5 ≤ 99) (f_X0_edgeOf_215 x0 x5) (hf_ck (hf_inI 99 ∧ hf_inI (x3 + x4)) (hf_bd (hf_ret (min 99 (x3 + x4))) (fun v78 => hf_bd (hf_dv (x3 + v78) 2) (fun v88 => hf_bd (hf_ob 0 x0 (f_X0_seek x0 v78 x1 x2)) (fun _ => hf_bd (hf_gf 0 6 x0) (fun v100 => hf_cz v100 (v100 = 0) (f_X0_edgeOf_142 rec_51 x0 x1 x2 x3 x4 x5 x6 v78 v88) (hf_bd (hf_gf 0 12 x0) (fun v107 => hf_bd (hf_al 20 v107 v78) (fun v112 => hf_cb v112 (-2) (v112 = (-2)) (f_X0_edgeOf_142 rec_51 x0 x1 x2 x3 x4 x5 x6 v78 v88) (hf_bd (hf_gf 0 12 x0) (fun v119 => hf_bd (hf_al 20 v119 v78) (fun v124 => hf_bd (hf_gf 0 12 x0) (fun v126 => hf_bd (hf_al 20 v126 x3) (fun v130 => hf_cb v124 v130 (v124 = v130) (f_X0_edgeOf_142 rec_51 x0 x1 x2 x3 x4 x5 x6 v78 v88) (hf_bd (hf_ob 0 x0 (f_X0_seek x0 v88 x1 x2)) (fun _ => f_X0_edgeOf_142 rec_51 x0 x1 x2 x3 x4 x5 x6 v78 v88))))))))))))))))))
def f_X0_edgeOf_51 (x0 x1 x2 x3 x4 x5 x6 : Int) : hf_M Int := hf_fx (fun rec s => B_X0_edgeOf_51 x0 x1 x2 rec s.1 s.2.1 s.2.2.1 s.2.2.2) hf_N (x3, x4, x5, x6)
def f_X0_edgeOf (x0 x1 x2 : Int) : hf_M Int :=
  hf_bd (hf_gf 0 16 x0) (fun v2 => hf_bd (hf_pf 0 13 x0 v2) (fun _ => hf_bd (hf_gf 0 17 x0) (fun v10 => hf_bd (hf_pf 0 14 x0 v10) (fun _ => hf_bd (hf_gf 0 12 x0) (fun v17 => hf_bd (f_J7_fill_53178 v17 (-1)) (fun _ => hf_bd (hf_gf 0 10 x0) (fun v25 => hf_bd (hf_al 20 v25 x1) (fun v29 => hf_bd (hf_gf 0 12 x0) (fun v32 => hf_bd (hf_gf 0 15 x0) (fun v37 => hf_bd (hf_as 20 v32 v29 v37) (fun _ => f_X0_edgeOf_51 x0 x1 x2 v29 1 100 0)))))))))))
theorem cal_X0_edgeOf : hf_cv M_X0_edgeOf 0 2 := ⟨⟨ii_X0, kc_X0_edgeOf, by decide, by decide, by decide +kernel⟩, ki_X0_edgeOf, kv_X0_edgeOf, _, rfl, rfl⟩
set_option maxRecDepth 20000 in
theorem j_X0_edgeOf_209 (x0 x1 x2 x3 x4 x5 x6 : Int) (rec_51 : Int × Int × Int × Int → hf_M Int) (hrec_51 : ∀ s : Int × Int × Int × Int, hf_J M_X0_edgeOf 51 [(0, 2, x0), (1, 0, x1), (2, 0, x2), (3, 0, s.1), (4, 0, s.2.1), (5, 0, s.2.2.1), (6, 0, s.2.2.2)] [] (rec_51 s)) : hf_J M_X0_edgeOf 209 [(0, 2, x0), (1, 0, x1), (2, 0, x2), (3, 0, x3), (4, 0, x4), (5, 0, x5), (6, 0, x6)] [] (f_X0_edgeOf_209 rec_51 x0 x1 x2 x3 x4 x5 x6) := by
  refine hf_iincB (pc := 209) (fun y => [(6, 0, y), (0, 2, x0), (1, 0, x1), (2, 0, x2), (3, 0, x3), (4, 0, x4), (5, 0, x5)]) (q := 6) rfl (by decide) (fun _ => rfl) dX0_edgeOf_209 (fun x6_209 => ?_)
  refine hf_goto (pc := 212) 51 dX0_edgeOf_212 rfl ?_
  exact hf_sub [1, 2, 3, 4, 5, 6, 0] rfl (hrec_51 (x3, x4, x5, x6_209))
set_option maxRecDepth 20000 in
theorem j_X0_edgeOf_189 (x0 x1 x2 x4 x5 x6 x7 : Int) (rec_51 : Int × Int × Int × Int → hf_M Int) (hrec_51 : ∀ s : Int × Int × Int × Int, hf_J M_X0_edgeOf 51 [(0, 2, x0), (1, 0, x1), (2, 0, x2), (3, 0, s.1), (4, 0, s.2.1), (5, 0, s.2.2.1), (6, 0, s.2.2.2)] [] (rec_51 s)) : hf_J M_X0_edgeOf 189 [(0, 2, x0), (1, 0, x1), (2, 0, x2), (4, 0, x4), (5, 0, x5), (6, 0, x6), (7, 0, x7)] [] (f_X0_edgeOf_189 rec_51 x0 x1 x2 x4 x5 x6 x7) := by
  refine hf_ild (pc := 189) 6 rfl dX0_edgeOf_189 ?_
  refine hf_ist_n (pc := 191) (lv' := [(3, 0, x7), (0, 2, x0), (1, 0, x1), (2, 0, x2), (4, 0, x4), (5, 0, x5), (6, 0, x6), (7, 0, x7)]) rfl (by decide) rfl dX0_edgeOf_191 ?_
  refine hf_ild (pc := 192) 4 rfl dX0_edgeOf_192 ?_
  refine hf_iconst (pc := 194) dX0_edgeOf_194 ?_
  refine hf_imul (pc := 195) dX0_edgeOf_195 ?_
  refine hf_istB (pc := 196) (fun y => [(4, 0, y), (3, 0, x7), (0, 2, x0), (1, 0, x1), (2, 0, x2), (5, 0, x5), (6, 0, x6), (7, 0, x7)]) (by decide) (fun _ => rfl) dX0_edgeOf_196 (fun x4_196 => ?_)
  refine hf_goto (pc := 198) 209 dX0_edgeOf_198 rfl ?_
  exact hf_sub [2, 3, 4, 1, 0, 5, 6] rfl (j_X0_edgeOf_209 x0 x1 x2 x7 x4_196 x5 x6 rec_51 hrec_51)
set_option maxRecDepth 20000 in
theorem j_X0_edgeOf_169 (x0 x1 x2 x3 x4 x5 x6 x7 x8 : Int) (rec_51 : Int × Int × Int × Int → hf_M Int) (hrec_51 : ∀ s : Int × Int × Int × Int, hf_J M_X0_edgeOf 51 [(0, 2, x0), (1, 0, x1), (2, 0, x2), (3, 0, s.1), (4, 0, s.2.1), (5, 0, s.2.2.1), (6, 0, s.2.2.2)] [] (rec_51 s)) : hf_J M_X0_edgeOf 169 [(0, 2, x0), (1, 0, x1), (2, 0, x2), (3, 0, x3), (4, 0, x4), (5, 0, x5), (6, 0, x6), (7, 0, x7), (8, 0, x8)] [] (f_X0_edgeOf_169 rec_51 x0 x1 x2 x3 x4 x5 x6 x7 x8) := by
  refine hf_ild (pc := 169) 7 rfl dX0_edgeOf_169 ?_
  refine hf_ild_n (pc := 171) 3 rfl rfl dX0_edgeOf_171 ?_
  refine hf_iconst (pc := 172) dX0_edgeOf_172 ?_
  refine hf_iadd (pc := 173) dX0_edgeOf_173 ?_
  refine hf_icmp_eq (pc := 174) 189 dX0_edgeOf_174 rfl ?_ ?_
  · exact hf_sub [0, 1, 2, 4, 5, 6, 7] rfl (j_X0_edgeOf_189 x0 x1 x2 x4 x5 x6 x7 rec_51 hrec_51)
  · refine hf_ald_n (pc := 177) 0 rfl rfl dX0_edgeOf_177 ?_
    refine hf_ild_n (pc := 178) 3 rfl rfl dX0_edgeOf_178 ?_
    refine hf_ild (pc := 179) 8 rfl dX0_edgeOf_179 ?_
    refine hf_ild (pc := 181) 7 rfl dX0_edgeOf_181 ?_
    refine hf_cV (pc := 183) (N := M_X0_staysBetween) (ts := [0, 0, 0]) (vs := [x3, x8, x7]) (st := []) (fun r => [(0, r)]) (c_X0_staysBetween x0 x3 x8 x7) cal_X0_staysBetween ml_X0_113 ⟨hf_le rfl, hf_le rfl⟩ (hf_le rfl) ⟨rfl, rfl⟩ rfl dX0_edgeOf_183 (fun _ => rfl) (fun v183 => ?_)
    refine hf_if_eq (pc := 186) 201 dX0_edgeOf_186 rfl ?_ ?_
    · refine hf_ild (pc := 201) 7 rfl dX0_edgeOf_201 ?_
      refine hf_ild_n (pc := 203) 3 rfl rfl dX0_edgeOf_203 ?_
      refine hf_isub (pc := 204) dX0_edgeOf_204 ?_
      refine hf_iconst (pc := 205) dX0_edgeOf_205 ?_
      refine hf_idiv (pc := 206) dX0_edgeOf_206 (fun v206 => ?_)
      refine hf_ist (pc := 207) (lv' := [(4, 0, v206), (0, 2, x0), (1, 0, x1), (2, 0, x2), (3, 0, x3), (5, 0, x5), (6, 0, x6), (7, 0, x7), (8, 0, x8)]) (by decide) rfl dX0_edgeOf_207 ?_
      exact hf_sub [1, 2, 3, 4, 0, 5, 6] rfl (j_X0_edgeOf_209 x0 x1 x2 x3 v206 x5 x6 rec_51 hrec_51)
    · exact hf_sub [0, 1, 2, 4, 5, 6, 7] rfl (j_X0_edgeOf_189 x0 x1 x2 x4 x5 x6 x7 rec_51 hrec_51)
set_option maxRecDepth 20000 in
theorem j_X0_edgeOf_142 (x0 x1 x2 x3 x4 x5 x6 x7 x8 : Int) (rec_51 : Int × Int × Int × Int → hf_M Int) (hrec_51 : ∀ s : Int × Int × Int × Int, hf_J M_X0_edgeOf 51 [(0, 2, x0), (1, 0, x1), (2, 0, x2), (3, 0, s.1), (4, 0, s.2.1), (5, 0, s.2.2.1), (6, 0, s.2.2.2)] [] (rec_51 s)) : hf_J M_X0_edgeOf 142 [(0, 2, x0), (1, 0, x1), (2, 0, x2), (3, 0, x3), (4, 0, x4), (5, 0, x5), (6, 0, x6), (7, 0, x7), (8, 0, x8)] [] (f_X0_edgeOf_142 rec_51 x0 x1 x2 x3 x4 x5 x6 x7 x8) := by
  refine hf_ild (pc := 142) 7 rfl dX0_edgeOf_142 ?_
  refine hf_ild_n (pc := 144) 3 rfl rfl dX0_edgeOf_144 ?_
  refine hf_iconst (pc := 145) dX0_edgeOf_145 ?_
  refine hf_iadd (pc := 146) dX0_edgeOf_146 ?_
  refine hf_icmp_ne (pc := 147) 169 dX0_edgeOf_147 rfl ?_ ?_
  · exact hf_sub [0, 1, 2, 3, 4, 5, 6, 7, 8] rfl (j_X0_edgeOf_169 x0 x1 x2 x3 x4 x5 x6 x7 x8 rec_51 hrec_51)
  · refine hf_ald_n (pc := 150) 0 rfl rfl dX0_edgeOf_150 ?_
    refine hf_getf (pc := 151) fl_X0_52 dX0_edgeOf_151 (fun v151 => ?_)
    refine hf_ild (pc := 154) 7 rfl dX0_edgeOf_154 ?_
    refine hf_iald (pc := 156) dX0_edgeOf_156 (fun v156 => ?_)
    refine hf_bipush (pc := 157) dX0_edgeOf_157 (by decide) ?_
    refine hf_icmp_ne (pc := 159) 169 dX0_edgeOf_159 rfl ?_ ?_
    · exact hf_sub [0, 1, 2, 3, 4, 5, 6, 7, 8] rfl (j_X0_edgeOf_169 x0 x1 x2 x3 x4 x5 x6 x7 x8 rec_51 hrec_51)
    · refine hf_ild (pc := 162) 7 rfl dX0_edgeOf_162 ?_
      refine hf_ist (pc := 164) (lv' := [(5, 0, x7), (0, 2, x0), (1, 0, x1), (2, 0, x2), (3, 0, x3), (4, 0, x4), (6, 0, x6), (7, 0, x7), (8, 0, x8)]) (by decide) rfl dX0_edgeOf_164 ?_
      refine hf_goto (pc := 166) 209 dX0_edgeOf_166 rfl ?_
      exact hf_sub [1, 2, 3, 4, 5, 0, 6] rfl (j_X0_edgeOf_209 x0 x1 x2 x3 x4 x7 x6 rec_51 hrec_51)
set_option maxRecDepth 20000 in
theorem j_X0_edgeOf_215 (x0 x5 : Int) : hf_J M_X0_edgeOf 215 [(0, 2, x0), (5, 0, x5)] [] (f_X0_edgeOf_215 x0 x5) := by
  refine hf_ald_n (pc := 215) 0 rfl rfl dX0_edgeOf_215 ?_
  refine hf_iconst (pc := 216) dX0_edgeOf_216 ?_
  refine hf_putf (pc := 217) fl_X0_24 trivial dX0_edgeOf_217 ?_
  refine hf_ild (pc := 220) 1 rfl dX0_edgeOf_220 ?_
  exact hf_Jret (pc := 222) dX0_edgeOf_222 (fun _ => rfl)
set_option maxRecDepth 20000 in
theorem jb_X0_edgeOf_51 (x0 x1 x2 : Int) (rec_51 : Int × Int × Int × Int → hf_M Int) (hrec_51 : ∀ s : Int × Int × Int × Int, hf_J M_X0_edgeOf 51 [(0, 2, x0), (1, 0, x1), (2, 0, x2), (3, 0, s.1), (4, 0, s.2.1), (5, 0, s.2.2.1), (6, 0, s.2.2.2)] [] (rec_51 s)) (x3 x4 x5 x6 : Int) : hf_J M_X0_edgeOf 51 [(0, 2, x0), (1, 0, x1), (2, 0, x2), (3, 0, x3), (4, 0, x4), (5, 0, x5), (6, 0, x6)] [] (B_X0_edgeOf_51 x0 x1 x2 rec_51 x3 x4 x5 x6) := by
  refine hf_ild (pc := 51) 6 rfl dX0_edgeOf_51 ?_
  refine hf_sipush (pc := 53) dX0_edgeOf_53 (by decide) ?_
  refine hf_icmp_ge (pc := 56) 215 dX0_edgeOf_56 rfl ?_ ?_
  · exact hf_sub [0, 5] rfl (j_X0_edgeOf_215 x0 x5)
  · refine hf_ild_n (pc := 59) 3 rfl rfl dX0_edgeOf_59 ?_
    refine hf_bipush (pc := 60) dX0_edgeOf_60 (by decide) ?_
    refine hf_icmp_ge (pc := 62) 215 dX0_edgeOf_62 rfl ?_ ?_
    · exact hf_sub [0, 5] rfl (j_X0_edgeOf_215 x0 x5)
    · refine hf_ild (pc := 65) 5 rfl dX0_edgeOf_65 ?_
      refine hf_bipush (pc := 67) dX0_edgeOf_67 (by decide) ?_
      refine hf_icmp_le (pc := 69) 215 dX0_edgeOf_69 rfl ?_ ?_
      · exact hf_sub [0, 5] rfl (j_X0_edgeOf_215 x0 x5)
      · refine hf_bipush (pc := 72) dX0_edgeOf_72 (by decide) ?_
        refine hf_ild_n (pc := 74) 3 rfl rfl dX0_edgeOf_74 ?_
        refine hf_ild (pc := 75) 4 rfl dX0_edgeOf_75 ?_
        refine hf_iadd (pc := 77) dX0_edgeOf_77 ?_
        refine hf_mmin (pc := 78) ml_X0_103 ⟨hf_le rfl, hf_le rfl⟩ dX0_edgeOf_78 (fun v78 => ?_)
        refine hf_ist (pc := 81) (lv' := [(7, 0, v78), (0, 2, x0), (1, 0, x1), (2, 0, x2), (3, 0, x3), (4, 0, x4), (5, 0, x5), (6, 0, x6)]) (by decide) rfl dX0_edgeOf_81 ?_
        refine hf_ild_n (pc := 83) 4 rfl rfl dX0_edgeOf_83 ?_
        refine hf_ild (pc := 84) 0 rfl dX0_edgeOf_84 ?_
        refine hf_iadd (pc := 86) dX0_edgeOf_86 ?_
        refine hf_iconst (pc := 87) dX0_edgeOf_87 ?_
        refine hf_idiv (pc := 88) dX0_edgeOf_88 (fun v88 => ?_)
        refine hf_ist (pc := 89) (lv' := [(8, 0, v88), (7, 0, v78), (0, 2, x0), (1, 0, x1), (2, 0, x2), (3, 0, x3), (4, 0, x4), (5, 0, x5), (6, 0, x6)]) (by decide) rfl dX0_edgeOf_89 ?_
        refine hf_ald_n (pc := 91) 2 rfl rfl dX0_edgeOf_91 ?_
        refine hf_ild (pc := 92) 1 rfl dX0_edgeOf_92 ?_
        refine hf_ild_n (pc := 94) 3 rfl rfl dX0_edgeOf_94 ?_
        refine hf_ild_n (pc := 95) 4 rfl rfl dX0_edgeOf_95 ?_
        refine hf_cV (pc := 96) (N := M_X0_seek) (ts := [0, 0, 0]) (vs := [v78, x1, x2]) (st := []) (fun r => []) (c_X0_seek x0 v78 x1 x2) cal_X0_seek ml_X0_109 ⟨hf_le rfl, hf_le rfl⟩ (hf_le rfl) ⟨rfl, rfl⟩ rfl dX0_edgeOf_96 (fun _ => rfl) (fun _ => ?_)
        refine hf_ald_n (pc := 99) 2 rfl rfl dX0_edgeOf_99 ?_
        refine hf_getf (pc := 100) fl_X0_33 dX0_edgeOf_100 (fun v100 => ?_)
        refine hf_if_eq (pc := 103) 142 dX0_edgeOf_103 rfl ?_ ?_
        · exact hf_sub [2, 3, 4, 5, 6, 7, 8, 1, 0] rfl (j_X0_edgeOf_142 x0 x1 x2 x3 x4 x5 x6 v78 v88 rec_51 hrec_51)
        · refine hf_ald_n (pc := 106) 2 rfl rfl dX0_edgeOf_106 ?_
          refine hf_getf (pc := 107) fl_X0_52 dX0_edgeOf_107 (fun v107 => ?_)
          refine hf_ild (pc := 110) 1 rfl dX0_edgeOf_110 ?_
          refine hf_iald (pc := 112) dX0_edgeOf_112 (fun v112 => ?_)
          refine hf_bipush (pc := 113) dX0_edgeOf_113 (by decide) ?_
          refine hf_icmp_eq (pc := 115) 142 dX0_edgeOf_115 rfl ?_ ?_
          · exact hf_sub [2, 3, 4, 5, 6, 7, 8, 1, 0] rfl (j_X0_edgeOf_142 x0 x1 x2 x3 x4 x5 x6 v78 v88 rec_51 hrec_51)
          · refine hf_ald_n (pc := 118) 2 rfl rfl dX0_edgeOf_118 ?_
            refine hf_getf (pc := 119) fl_X0_52 dX0_edgeOf_119 (fun v119 => ?_)
            refine hf_ild (pc := 122) 1 rfl dX0_edgeOf_122 ?_
            refine hf_iald (pc := 124) dX0_edgeOf_124 (fun v124 => ?_)
            refine hf_ald_n (pc := 125) 2 rfl rfl dX0_edgeOf_125 ?_
            refine hf_getf (pc := 126) fl_X0_52 dX0_edgeOf_126 (fun v126 => ?_)
            refine hf_ild_n (pc := 129) 5 rfl rfl dX0_edgeOf_129 ?_
            refine hf_iald (pc := 130) dX0_edgeOf_130 (fun v130 => ?_)
            refine hf_icmp_eq (pc := 131) 142 dX0_edgeOf_131 rfl ?_ ?_
            · exact hf_sub [2, 3, 4, 5, 6, 7, 8, 1, 0] rfl (j_X0_edgeOf_142 x0 x1 x2 x3 x4 x5 x6 v78 v88 rec_51 hrec_51)
            · refine hf_ald_n (pc := 134) 2 rfl rfl dX0_edgeOf_134 ?_
              refine hf_ild (pc := 135) 0 rfl dX0_edgeOf_135 ?_
              refine hf_ild_n (pc := 137) 3 rfl rfl dX0_edgeOf_137 ?_
              refine hf_ild_n (pc := 138) 4 rfl rfl dX0_edgeOf_138 ?_
              refine hf_cV (pc := 139) (N := M_X0_seek) (ts := [0, 0, 0]) (vs := [v88, x1, x2]) (st := []) (fun r => []) (c_X0_seek x0 v88 x1 x2) cal_X0_seek ml_X0_109 ⟨hf_le rfl, hf_le rfl⟩ (hf_le rfl) ⟨rfl, rfl⟩ rfl dX0_edgeOf_139 (fun _ => rfl) (fun _ => ?_)
              exact hf_sub [2, 3, 4, 5, 6, 7, 8, 1, 0] rfl (j_X0_edgeOf_142 x0 x1 x2 x3 x4 x5 x6 v78 v88 rec_51 hrec_51)
set_option maxRecDepth 20000 in
theorem j_X0_edgeOf_51 (x0 x1 x2 x3 x4 x5 x6 : Int) : hf_J M_X0_edgeOf 51 [(0, 2, x0), (1, 0, x1), (2, 0, x2), (3, 0, x3), (4, 0, x4), (5, 0, x5), (6, 0, x6)] [] (f_X0_edgeOf_51 x0 x1 x2 x3 x4 x5 x6) :=
  hf_Jfx (L := fun s => [(0, 2, x0), (1, 0, x1), (2, 0, x2), (3, 0, s.1), (4, 0, s.2.1), (5, 0, s.2.2.1), (6, 0, s.2.2.2)]) (fun rec hrec s => jb_X0_edgeOf_51 x0 x1 x2 rec hrec s.1 s.2.1 s.2.2.1 s.2.2.2) hf_N (x3, x4, x5, x6)
set_option maxRecDepth 20000 in
theorem c_X0_edgeOf (x0 x1 x2 : Int) : hf_Met M_X0_edgeOf [2, 0, 0] [x0, x1, x2] (f_X0_edgeOf x0 x1 x2) := by
  refine hf_met rfl (by decide) (by decide) (by decide) ?_
  show hf_J M_X0_edgeOf 0 [(0, 2, x0), (1, 0, x1), (2, 0, x2)] [] _
  refine hf_ald_n (pc := 0) 0 rfl rfl dX0_edgeOf_0 ?_
  refine hf_ald_n (pc := 1) 0 rfl rfl dX0_edgeOf_1 ?_
  refine hf_getf (pc := 2) fl_X0_65 dX0_edgeOf_2 (fun v2 => ?_)
  refine hf_putf (pc := 5) fl_X0_55 trivial dX0_edgeOf_5 ?_
  refine hf_ald_n (pc := 8) 0 rfl rfl dX0_edgeOf_8 ?_
  refine hf_ald_n (pc := 9) 0 rfl rfl dX0_edgeOf_9 ?_
  refine hf_getf (pc := 10) fl_X0_68 dX0_edgeOf_10 (fun v10 => ?_)
  refine hf_putf (pc := 13) fl_X0_58 trivial dX0_edgeOf_13 ?_
  refine hf_ald_n (pc := 16) 0 rfl rfl dX0_edgeOf_16 ?_
  refine hf_getf (pc := 17) fl_X0_52 dX0_edgeOf_17 (fun v17 => ?_)
  refine hf_iconst (pc := 20) dX0_edgeOf_20 ?_
  refine hf_cS (pc := 21) (N := M_J7_fill_53178) (ts := [2, 0]) (vs := [v17, (-1)]) (st := []) (fun r => []) (c_J7_fill_53178 v17 (-1)) cal_J7_fill_53178 ml_X0_97 ⟨hf_le rfl, hf_le rfl⟩ (hf_le rfl) ⟨rfl, rfl⟩ rfl dX0_edgeOf_21 (fun _ => rfl) (fun _ => ?_)
  refine hf_ald_n (pc := 24) 0 rfl rfl dX0_edgeOf_24 ?_
  refine hf_getf (pc := 25) fl_X0_46 dX0_edgeOf_25 (fun v25 => ?_)
  refine hf_ild_n (pc := 28) 1 rfl rfl dX0_edgeOf_28 ?_
  refine hf_iald (pc := 29) dX0_edgeOf_29 (fun v29 => ?_)
  refine hf_ist_n (pc := 30) (lv' := [(3, 0, v29), (0, 2, x0), (1, 0, x1), (2, 0, x2)]) rfl (by decide) rfl dX0_edgeOf_30 ?_
  refine hf_ald_n (pc := 31) 1 rfl rfl dX0_edgeOf_31 ?_
  refine hf_getf (pc := 32) fl_X0_52 dX0_edgeOf_32 (fun v32 => ?_)
  refine hf_ild_n (pc := 35) 0 rfl rfl dX0_edgeOf_35 ?_
  refine hf_ald_n (pc := 36) 1 rfl rfl dX0_edgeOf_36 ?_
  refine hf_getf (pc := 37) fl_X0_62 dX0_edgeOf_37 (fun v37 => ?_)
  refine hf_iast (pc := 40) dX0_edgeOf_40 ?_
  refine hf_iconst (pc := 41) dX0_edgeOf_41 ?_
  refine hf_ist (pc := 42) (lv' := [(4, 0, 1), (3, 0, v29), (0, 2, x0), (1, 0, x1), (2, 0, x2)]) (by decide) rfl dX0_edgeOf_42 ?_
  refine hf_bipush (pc := 44) dX0_edgeOf_44 (by decide) ?_
  refine hf_ist (pc := 46) (lv' := [(5, 0, 100), (4, 0, 1), (3, 0, v29), (0, 2, x0), (1, 0, x1), (2, 0, x2)]) (by decide) rfl dX0_edgeOf_46 ?_
  refine hf_iconst (pc := 48) dX0_edgeOf_48 ?_
  refine hf_ist (pc := 49) (lv' := [(6, 0, 0), (5, 0, 100), (4, 0, 1), (3, 0, v29), (0, 2, x0), (1, 0, x1), (2, 0, x2)]) (by decide) rfl dX0_edgeOf_49 ?_
  exact hf_sub [4, 5, 6, 3, 2, 1, 0] rfl (j_X0_edgeOf_51 x0 x1 x2 v29 1 100 0)
