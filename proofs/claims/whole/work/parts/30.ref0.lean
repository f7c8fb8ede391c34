/-! HighFallModel.<init>()V -/
def M_X12_init : hf_D := (yX12_init, cX12_init, 2, none, 1, 20)
def B_X12_init_734 (x0 : Int) (rec_734 : Int → hf_M Int) (x1 : Int) : hf_M Int :=
  hf_cb x1 41 (41 ≤ x1) (hf_ret 0) (hf_bd (hf_gf 12 7 x0) (fun v741 => hf_bd (hf_as 20 v741 x1 1) (fun _ => hf_bd (hf_ret (x1 + 1)) (fun x1_747 => rec_734 x1_747))))
def f_X12_init_734 (x0 x1 : Int) : hf_M Int := hf_fx (fun rec s => B_X12_init_734 x0 rec s) hf_N x1
def B_X12_init_714 (x0 : Int) (rec_714 : Int → hf_M Int) (x1 : Int) : hf_M Int :=
  hf_cb x1 3 (3 ≤ x1) (f_X12_init_734 x0 0) (hf_bd (hf_gf 12 6 x0) (fun v720 => hf_bd (hf_as 20 v720 x1 1) (fun _ => hf_bd (hf_ret (x1 + 1)) (fun x1_726 => rec_714 x1_726))))
def f_X12_init_714 (x0 x1 : Int) : hf_M Int := hf_fx (fun rec s => B_X12_init_714 x0 rec s) hf_N x1
def f_X12_init (x0 : Int) : hf_M Int :=
  hf_ob 12 x0 (hf_bd (hf_na 20 400) (fun v8 => hf_bd (hf_pf 12 0 x0 v8) (fun _ => hf_bd (hf_pf 12 3 x0 20) (fun _ => hf_bd (hf_na 20 3) (fun v21 => hf_bd (hf_pf 12 4 x0 v21) (fun _ => hf_bd (hf_na 20 3) (fun v28 => hf_bd (hf_pf 12 5 x0 v28) (fun _ => hf_bd (hf_na 20 3) (fun v35 => hf_bd (hf_pf 12 6 x0 v35) (fun _ => hf_bd (hf_na 20 41) (fun v43 => hf_bd (hf_pf 12 7 x0 v43) (fun _ => hf_bd (hf_pf 12 8 x0 1) (fun _ => hf_bd (hf_na 20 69) (fun v56 => hf_bd (hf_as 20 v56 0 105) (fun _ => hf_bd (hf_as 20 v56 1 102) (fun _ => hf_bd (hf_as 20 v56 2 32) (fun _ => hf_bd (hf_as 20 v56 3 102) (fun _ => hf_bd (hf_as 20 v56 4 97) (fun _ => hf_bd (hf_as 20 v56 5 108) (fun _ => hf_bd (hf_as 20 v56 6 108) (fun _ => hf_bd (hf_as 20 v56 7 32) (fun _ => hf_bd (hf_as 20 v56 8 115) (fun _ => hf_bd (hf_as 20 v56 9 116) (fun _ => hf_bd (hf_as 20 v56 10 111) (fun _ => hf_bd (hf_as 20 v56 11 112) (fun _ => hf_bd (hf_as 20 v56 12 32) (fun _ => hf_bd (hf_as 20 v56 13 97) (fun _ => hf_bd (hf_as 20 v56 14 110) (fun _ => hf_bd (hf_as 20 v56 15 100) (fun _ => hf_bd (hf_as 20 v56 16 32) (fun _ => hf_bd (hf_as 20 v56 17 111) (fun _ => hf_bd (hf_as 20 v56 18 114) (fun _ => hf_bd (hf_as 20 v56 19 32) (fun _ => hf_bd (hf_as 20 v56 20 110) (fun _ => hf_bd (hf_as 20 v56 21 111) (fun _ => hf_bd (hf_as 20 v56 22 116) (fun _ => hf_bd (hf_as 20 v56 23 32) (fun _ => hf_bd (hf_as 20 v56 24 108) (fun _ => hf_bd (hf_as 20 v56 25 111) (fun _ => hf_bd (hf_as 20 v56 26 119) (fun _ => hf_bd (hf_as 20 v56 27 32) (fun _ => hf_bd (hf_as 20 v56 28 104) (fun _ => hf_bd (hf_as 20 v56 29 105) (fun _ => hf_bd (hf_as 20 v56 30 103) (fun _ => hf_bd (hf_as 20 v56 31 104) (fun _ => hf_bd (hf_as 20 v56 32 32) (fun _ => hf_bd (hf_as 20 v56 33 115) (fun _ => hf_bd (hf_as 20 v56 34 112) (fun _ => hf_bd (hf_as 20 v56 35 97) (fun _ => hf_bd (hf_as 20 v56 36 110) (fun _ => hf_bd (hf_as 20 v56 37 32) (fun _ => hf_bd (hf_as 20 v56 38 102) (fun _ => hf_bd (hf_as 20 v56 39 97) (fun _ => hf_bd (hf_as 20 v56 40 108) (fun _ => hf_bd (hf_as 20 v56 41 108) (fun _ => hf_bd (hf_as 20 v56 42 115) (fun _ => hf_bd (hf_as 20 v56 43 32) (fun _ => hf_bd (hf_as 20 v56 44 108) (fun _ => hf_bd (hf_as 20 v56 45 97) (fun _ => hf_bd (hf_as 20 v56 46 115) (fun _ => hf_bd (hf_as 20 v56 47 116) (fun _ => hf_bd (hf_as 20 v56 48 32) (fun _ => hf_bd (hf_as 20 v56 49 98) (fun _ => hf_bd (hf_as 20 v56 50 114) (fun _ => hf_bd (hf_as 20 v56 51 111) (fun _ => hf_bd (hf_as 20 v56 52 107) (fun _ => hf_bd (hf_as 20 v56 53 101) (fun _ => hf_bd (hf_as 20 v56 54 32) (fun _ => hf_bd (hf_as 20 v56 55 111) (fun _ => hf_bd (hf_as 20 v56 56 110) (fun _ => hf_bd (hf_as 20 v56 57 101) (fun _ => hf_bd (hf_as 20 v56 58 32) (fun _ => hf_bd (hf_as 20 v56 59 116) (fun _ => hf_bd (hf_as 20 v56 60 119) (fun _ => hf_bd (hf_as 20 v56 61 111) (fun _ => hf_bd (hf_as 20 v56 62 32) (fun _ => hf_bd (hf_as 20 v56 63 116) (fun _ => hf_bd (hf_as 20 v56 64 104) (fun _ => hf_bd (hf_as 20 v56 65 114) (fun _ => hf_bd (hf_as 20 v56 66 101) (fun _ => hf_bd (hf_as 20 v56 67 101) (fun _ => hf_bd (hf_as 20 v56 68 32) (fun _ => hf_bd (hf_pf 12 10 x0 v56) (fun _ => hf_bd (hf_pf 12 12 x0 (-1)) (fun _ => hf_bd (hf_na 20 128) (fun v478 => hf_bd (hf_pf 12 23 x0 v478) (fun _ => hf_bd (hf_na 20 128) (fun v487 => hf_bd (hf_pf 12 24 x0 v487) (fun _ => hf_bd (hf_na 20 128) (fun v496 => hf_bd (hf_pf 12 25 x0 v496) (fun _ => hf_bd (hf_na 20 24) (fun v504 => hf_bd (hf_pf 12 26 x0 v504) (fun _ => hf_bd (hf_na 20 24) (fun v512 => hf_bd (hf_pf 12 27 x0 v512) (fun _ => hf_bd (hf_na 20 24) (fun v520 => hf_bd (hf_pf 12 28 x0 v520) (fun _ => hf_bd (hf_na 20 24) (fun v528 => hf_bd (hf_pf 12 29 x0 v528) (fun _ => hf_bd (hf_na 20 24) (fun v536 => hf_bd (hf_pf 12 30 x0 v536) (fun _ => hf_bd (hf_na 20 96) (fun v544 => hf_bd (hf_pf 12 31 x0 v544) (fun _ => hf_bd (hf_na 20 96) (fun v552 => hf_bd (hf_pf 12 32 x0 v552) (fun _ => hf_bd (hf_na 21 9) (fun v560 => hf_bd (hf_pf 12 39 x0 v560) (fun _ => hf_bd (hf_na 21 64) (fun v568 => hf_bd (hf_pf 12 40 x0 v568) (fun _ => hf_bd (hf_na 20 200) (fun v577 => hf_bd (hf_pf 12 47 x0 v577) (fun _ => hf_bd (hf_na 20 200) (fun v586 => hf_bd (hf_pf 12 48 x0 v586) (fun _ => hf_bd (hf_na 20 200) (fun v595 => hf_bd (hf_pf 12 49 x0 v595) (fun _ => hf_bd (hf_na 21 210125) (fun v603 => hf_bd (hf_pf 12 50 x0 v603) (fun _ => hf_bd (hf_na 20 42) (fun v611 => hf_bd (hf_pf 12 51 x0 v611) (fun _ => hf_bd (hf_na 20 344605) (fun v619 => hf_bd (hf_pf 12 54 x0 v619) (fun _ => hf_bd (hf_na 20 410) (fun v628 => hf_bd (hf_pf 12 55 x0 v628) (fun _ => hf_bd (hf_na 20 65536) (fun v636 => hf_bd (hf_pf 12 56 x0 v636) (fun _ => hf_bd (hf_na 20 40) (fun v644 => hf_bd (hf_pf 12 58 x0 v644) (fun _ => hf_bd (hf_na 20 40) (fun v652 => hf_bd (hf_pf 12 59 x0 v652) (fun _ => hf_bd (hf_na 20 40) (fun v660 => hf_bd (hf_pf 12 60 x0 v660) (fun _ => hf_bd (hf_na 23 40) (fun v668 => hf_bd (hf_pf 12 61 x0 v668) (fun _ => hf_bd (hf_na 23 40) (fun v676 => hf_bd (hf_pf 12 62 x0 v676) (fun _ => hf_bd (hf_na 20 100) (fun v684 => hf_bd (hf_pf 12 66 x0 v684) (fun _ => hf_bd (hf_na 20 100) (fun v692 => hf_bd (hf_pf 12 67 x0 v692) (fun _ => hf_bd (hf_na 20 100) (fun v700 => hf_bd (hf_pf 12 68 x0 v700) (fun _ => hf_bd (hf_gf 12 5 x0) (fun v706 => hf_bd (hf_as 20 v706 0 2) (fun _ => f_X12_init_714 x0 0)))))))))))))))))))))))))))))))))))))))))))))))))))))))))))))))))))))))))))))))))))))))))))))))))))))))))))))))))))))))))))))))))))))))))))))))
theorem cal_X12_init : hf_cix M_X12_init 0 := ⟨⟨ii_X12, kc_X12_init, by decide, by decide, by decide +kernel⟩, ki_X12_init, rfl⟩
set_option maxRecDepth 20000 in
theorem jb_X12_init_734 (x0 : Int) (rec_734 : Int → hf_M Int) (hrec_734 : ∀ s : Int, hf_J M_X12_init 734 [(0, 2, x0), (1, 0, s)] [] (rec_734 s)) (x1 : Int) : hf_J M_X12_init 734 [(0, 2, x0), (1, 0, x1)] [] (B_X12_init_734 x0 rec_734 x1) := by
  refine hf_ild_n (pc := 734) 1 rfl rfl dX12_init_734 ?_
  refine hf_bipush (pc := 735) dX12_init_735 (by decide) ?_
  refine hf_icmp_ge (pc := 737) 753 dX12_init_737 rfl ?_ ?_
  · exact hf_Jret (pc := 753) dX12_init_753 (fun _ => rfl)
  · refine hf_ald_n (pc := 740) 0 rfl rfl dX12_init_740 ?_
    refine hf_getf (pc := 741) fl_X12_26 dX12_init_741 (fun v741 => ?_)
    refine hf_ild_n (pc := 744) 1 rfl rfl dX12_init_744 ?_
    refine hf_iconst (pc := 745) dX12_init_745 ?_
    refine hf_iast (pc := 746) dX12_init_746 ?_
    refine hf_iincB (pc := 747) (fun y => [(1, 0, y), (0, 2, x0)]) (q := 1) rfl (by decide) (fun _ => rfl) dX12_init_747 (fun x1_747 => ?_)
    refine hf_goto (pc := 750) 734 dX12_init_750 rfl ?_
    exact hf_sub [1, 0] rfl (hrec_734 x1_747)
set_option maxRecDepth 20000 in
theorem j_X12_init_734 (x0 x1 : Int) : hf_J M_X12_init 734 [(0, 2, x0), (1, 0, x1)] [] (f_X12_init_734 x0 x1) :=
  hf_Jfx (L := fun s => [(0, 2, x0), (1, 0, s)]) (fun rec hrec s => jb_X12_init_734 x0 rec hrec s) hf_N x1
set_option maxRecDepth 20000 in
theorem jb_X12_init_714 (x0 : Int) (rec_714 : Int → hf_M Int) (hrec_714 : ∀ s : Int, hf_J M_X12_init 714 [(0, 2, x0), (1, 0, s)] [] (rec_714 s)) (x1 : Int) : hf_J M_X12_init 714 [(0, 2, x0), (1, 0, x1)] [] (B_X12_init_714 x0 rec_714 x1) := by
  refine hf_ild_n (pc := 714) 1 rfl rfl dX12_init_714 ?_
  refine hf_iconst (pc := 715) dX12_init_715 ?_
  refine hf_icmp_ge (pc := 716) 732 dX12_init_716 rfl ?_ ?_
  · refine hf_iconst (pc := 732) dX12_init_732 ?_
    refine hf_ist_n (pc := 733) (lv' := [(1, 0, 0), (0, 2, x0)]) rfl (by decide) rfl dX12_init_733 ?_
    exact hf_sub [1, 0] rfl (j_X12_init_734 x0 0)
  · refine hf_ald_n (pc := 719) 0 rfl rfl dX12_init_719 ?_
    refine hf_getf (pc := 720) fl_X12_23 dX12_init_720 (fun v720 => ?_)
    refine hf_ild_n (pc := 723) 1 rfl rfl dX12_init_723 ?_
    refine hf_iconst (pc := 724) dX12_init_724 ?_
    refine hf_iast (pc := 725) dX12_init_725 ?_
    refine hf_iincB (pc := 726) (fun y => [(1, 0, y), (0, 2, x0)]) (q := 1) rfl (by decide) (fun _ => rfl) dX12_init_726 (fun x1_726 => ?_)
    refine hf_goto (pc := 729) 714 dX12_init_729 rfl ?_
    exact hf_sub [1, 0] rfl (hrec_714 x1_726)
set_option maxRecDepth 20000 in
theorem j_X12_init_714 (x0 x1 : Int) : hf_J M_X12_init 714 [(0, 2, x0), (1, 0, x1)] [] (f_X12_init_714 x0 x1) :=
  hf_Jfx (L := fun s => [(0, 2, x0), (1, 0, s)]) (fun rec hrec s => jb_X12_init_714 x0 rec hrec s) hf_N x1
set_option maxRecDepth 20000 in
theorem c_X12_init (x0 : Int) : hf_Met M_X12_init [2] [x0] (f_X12_init x0) := by
  refine hf_met rfl (by decide) (by decide) (by decide) ?_
  show hf_J M_X12_init 0 [(0, 2, x0)] [] _
  refine hf_ald_n (pc := 0) 0 rfl rfl dX12_init_0 ?_
  refine hf_objinit (pc := 1) 12 ml_X12_1 oi_in oi_co ⟨hf_le rfl, hf_le rfl⟩ dX12_init_1 ?_
  refine hf_ald_n (pc := 4) 0 rfl rfl dX12_init_4 ?_
  refine hf_sipush (pc := 5) dX12_init_5 (by decide) ?_
  refine hf_newa0 (pc := 8) (tg := 20) (by decide) (by decide) rfl ac_int dX12_init_8 (fun v8 => ?_)
  refine hf_putfF (pc := 10) fl_X12_7 rfl (fun q hq => by cases hq; rfl) trivial dX12_init_10 ?_
  refine hf_ald_n (pc := 13) 0 rfl rfl dX12_init_13 ?_
  refine hf_bipush (pc := 14) dX12_init_14 (by decide) ?_
  refine hf_putf (pc := 16) fl_X12_13 trivial dX12_init_16 ?_
  refine hf_ald_n (pc := 19) 0 rfl rfl dX12_init_19 ?_
  refine hf_iconst (pc := 20) dX12_init_20 ?_
  refine hf_newa0 (pc := 21) (tg := 20) (by decide) (by decide) rfl ac_int dX12_init_21 (fun v21 => ?_)
  refine hf_putfF (pc := 23) fl_X12_17 rfl (fun q hq => by cases hq; rfl) trivial dX12_init_23 ?_
  refine hf_ald_n (pc := 26) 0 rfl rfl dX12_init_26 ?_
  refine hf_iconst (pc := 27) dX12_init_27 ?_
  refine hf_newa0 (pc := 28) (tg := 20) (by decide) (by decide) rfl ac_int dX12_init_28 (fun v28 => ?_)
  refine hf_putfF (pc := 30) fl_X12_20 rfl (fun q hq => by cases hq; rfl) trivial dX12_init_30 ?_
  refine hf_ald_n (pc := 33) 0 rfl rfl dX12_init_33 ?_
  refine hf_iconst (pc := 34) dX12_init_34 ?_
  refine hf_newa0 (pc := 35) (tg := 20) (by decide) (by decide) rfl ac_int dX12_init_35 (fun v35 => ?_)
  refine hf_putfF (pc := 37) fl_X12_23 rfl (fun q hq => by cases hq; rfl) trivial dX12_init_37 ?_
  refine hf_ald_n (pc := 40) 0 rfl rfl dX12_init_40 ?_
  refine hf_bipush (pc := 41) dX12_init_41 (by decide) ?_
  refine hf_newa0 (pc := 43) (tg := 20) (by decide) (by decide) rfl ac_int dX12_init_43 (fun v43 => ?_)
  refine hf_putfF (pc := 45) fl_X12_26 rfl (fun q hq => by cases hq; rfl) trivial dX12_init_45 ?_
  refine hf_ald_n (pc := 48) 0 rfl rfl dX12_init_48 ?_
  refine hf_iconst (pc := 49) dX12_init_49 ?_
  refine hf_putf (pc := 50) fl_X12_29 trivial dX12_init_50 ?_
  refine hf_ald_n (pc := 53) 0 rfl rfl dX12_init_53 ?_
  refine hf_bipush (pc := 54) dX12_init_54 (by decide) ?_
  refine hf_newa0 (pc := 56) (tg := 20) (by decide) (by decide) rfl ac_int dX12_init_56 (fun v56 => ?_)
  refine hf_dup (pc := 58) (by decide) dX12_init_58 ?_
  refine hf_iconst (pc := 59) dX12_init_59 ?_
  refine hf_bipush (pc := 60) dX12_init_60 (by decide) ?_
  refine hf_iast (pc := 62) dX12_init_62 ?_
  refine hf_dup (pc := 63) (by decide) dX12_init_63 ?_
  refine hf_iconst (pc := 64) dX12_init_64 ?_
  refine hf_bipush (pc := 65) dX12_init_65 (by decide) ?_
  refine hf_iast (pc := 67) dX12_init_67 ?_
  refine hf_dup (pc := 68) (by decide) dX12_init_68 ?_
  refine hf_iconst (pc := 69) dX12_init_69 ?_
  refine hf_bipush (pc := 70) dX12_init_70 (by decide) ?_
  refine hf_iast (pc := 72) dX12_init_72 ?_
  refine hf_dup (pc := 73) (by decide) dX12_init_73 ?_
  refine hf_iconst (pc := 74) dX12_init_74 ?_
  refine hf_bipush (pc := 75) dX12_init_75 (by decide) ?_
  refine hf_iast (pc := 77) dX12_init_77 ?_
  refine hf_dup (pc := 78) (by decide) dX12_init_78 ?_
  refine hf_iconst (pc := 79) dX12_init_79 ?_
  refine hf_bipush (pc := 80) dX12_init_80 (by decide) ?_
  refine hf_iast (pc := 82) dX12_init_82 ?_
  refine hf_dup (pc := 83) (by decide) dX12_init_83 ?_
  refine hf_iconst (pc := 84) dX12_init_84 ?_
  refine hf_bipush (pc := 85) dX12_init_85 (by decide) ?_
  refine hf_iast (pc := 87) dX12_init_87 ?_
  refine hf_dup (pc := 88) (by decide) dX12_init_88 ?_
  refine hf_bipush (pc := 89) dX12_init_89 (by decide) ?_
  refine hf_bipush (pc := 91) dX12_init_91 (by decide) ?_
  refine hf_iast (pc := 93) dX12_init_93 ?_
  refine hf_dup (pc := 94) (by decide) dX12_init_94 ?_
  refine hf_bipush (pc := 95) dX12_init_95 (by decide) ?_
  refine hf_bipush (pc := 97) dX12_init_97 (by decide) ?_
  refine hf_iast (pc := 99) dX12_init_99 ?_
  refine hf_dup (pc := 100) (by decide) dX12_init_100 ?_
  refine hf_bipush (pc := 101) dX12_init_101 (by decide) ?_
  refine hf_bipush (pc := 103) dX12_init_103 (by decide) ?_
  refine hf_iast (pc := 105) dX12_init_105 ?_
  refine hf_dup (pc := 106) (by decide) dX12_init_106 ?_
  refine hf_bipush (pc := 107) dX12_init_107 (by decide) ?_
  refine hf_bipush (pc := 109) dX12_init_109 (by decide) ?_
  refine hf_iast (pc := 111) dX12_init_111 ?_
  refine hf_dup (pc := 112) (by decide) dX12_init_112 ?_
  refine hf_bipush (pc := 113) dX12_init_113 (by decide) ?_
  refine hf_bipush (pc := 115) dX12_init_115 (by decide) ?_
  refine hf_iast (pc := 117) dX12_init_117 ?_
  refine hf_dup (pc := 118) (by decide) dX12_init_118 ?_
  refine hf_bipush (pc := 119) dX12_init_119 (by decide) ?_
  refine hf_bipush (pc := 121) dX12_init_121 (by decide) ?_
  refine hf_iast (pc := 123) dX12_init_123 ?_
  refine hf_dup (pc := 124) (by decide) dX12_init_124 ?_
  refine hf_bipush (pc := 125) dX12_init_125 (by decide) ?_
  refine hf_bipush (pc := 127) dX12_init_127 (by decide) ?_
  refine hf_iast (pc := 129) dX12_init_129 ?_
  refine hf_dup (pc := 130) (by decide) dX12_init_130 ?_
  refine hf_bipush (pc := 131) dX12_init_131 (by decide) ?_
  refine hf_bipush (pc := 133) dX12_init_133 (by decide) ?_
  refine hf_iast (pc := 135) dX12_init_135 ?_
  refine hf_dup (pc := 136) (by decide) dX12_init_136 ?_
  refine hf_bipush (pc := 137) dX12_init_137 (by decide) ?_
  refine hf_bipush (pc := 139) dX12_init_139 (by decide) ?_
  refine hf_iast (pc := 141) dX12_init_141 ?_
  refine hf_dup (pc := 142) (by decide) dX12_init_142 ?_
  refine hf_bipush (pc := 143) dX12_init_143 (by decide) ?_
  refine hf_bipush (pc := 145) dX12_init_145 (by decide) ?_
  refine hf_iast (pc := 147) dX12_init_147 ?_
  refine hf_dup (pc := 148) (by decide) dX12_init_148 ?_
  refine hf_bipush (pc := 149) dX12_init_149 (by decide) ?_
  refine hf_bipush (pc := 151) dX12_init_151 (by decide) ?_
  refine hf_iast (pc := 153) dX12_init_153 ?_
  refine hf_dup (pc := 154) (by decide) dX12_init_154 ?_
  refine hf_bipush (pc := 155) dX12_init_155 (by decide) ?_
  refine hf_bipush (pc := 157) dX12_init_157 (by decide) ?_
  refine hf_iast (pc := 159) dX12_init_159 ?_
  refine hf_dup (pc := 160) (by decide) dX12_init_160 ?_
  refine hf_bipush (pc := 161) dX12_init_161 (by decide) ?_
  refine hf_bipush (pc := 163) dX12_init_163 (by decide) ?_
  refine hf_iast (pc := 165) dX12_init_165 ?_
  refine hf_dup (pc := 166) (by decide) dX12_init_166 ?_
  refine hf_bipush (pc := 167) dX12_init_167 (by decide) ?_
  refine hf_bipush (pc := 169) dX12_init_169 (by decide) ?_
  refine hf_iast (pc := 171) dX12_init_171 ?_
  refine hf_dup (pc := 172) (by decide) dX12_init_172 ?_
  refine hf_bipush (pc := 173) dX12_init_173 (by decide) ?_
  refine hf_bipush (pc := 175) dX12_init_175 (by decide) ?_
  refine hf_iast (pc := 177) dX12_init_177 ?_
  refine hf_dup (pc := 178) (by decide) dX12_init_178 ?_
  refine hf_bipush (pc := 179) dX12_init_179 (by decide) ?_
  refine hf_bipush (pc := 181) dX12_init_181 (by decide) ?_
  refine hf_iast (pc := 183) dX12_init_183 ?_
  refine hf_dup (pc := 184) (by decide) dX12_init_184 ?_
  refine hf_bipush (pc := 185) dX12_init_185 (by decide) ?_
  refine hf_bipush (pc := 187) dX12_init_187 (by decide) ?_
  refine hf_iast (pc := 189) dX12_init_189 ?_
  refine hf_dup (pc := 190) (by decide) dX12_init_190 ?_
  refine hf_bipush (pc := 191) dX12_init_191 (by decide) ?_
  refine hf_bipush (pc := 193) dX12_init_193 (by decide) ?_
  refine hf_iast (pc := 195) dX12_init_195 ?_
  refine hf_dup (pc := 196) (by decide) dX12_init_196 ?_
  refine hf_bipush (pc := 197) dX12_init_197 (by decide) ?_
  refine hf_bipush (pc := 199) dX12_init_199 (by decide) ?_
  refine hf_iast (pc := 201) dX12_init_201 ?_
  refine hf_dup (pc := 202) (by decide) dX12_init_202 ?_
  refine hf_bipush (pc := 203) dX12_init_203 (by decide) ?_
  refine hf_bipush (pc := 205) dX12_init_205 (by decide) ?_
  refine hf_iast (pc := 207) dX12_init_207 ?_
  refine hf_dup (pc := 208) (by decide) dX12_init_208 ?_
  refine hf_bipush (pc := 209) dX12_init_209 (by decide) ?_
  refine hf_bipush (pc := 211) dX12_init_211 (by decide) ?_
  refine hf_iast (pc := 213) dX12_init_213 ?_
  refine hf_dup (pc := 214) (by decide) dX12_init_214 ?_
  refine hf_bipush (pc := 215) dX12_init_215 (by decide) ?_
  refine hf_bipush (pc := 217) dX12_init_217 (by decide) ?_
  refine hf_iast (pc := 219) dX12_init_219 ?_
  refine hf_dup (pc := 220) (by decide) dX12_init_220 ?_
  refine hf_bipush (pc := 221) dX12_init_221 (by decide) ?_
  refine hf_bipush (pc := 223) dX12_init_223 (by decide) ?_
  refine hf_iast (pc := 225) dX12_init_225 ?_
  refine hf_dup (pc := 226) (by decide) dX12_init_226 ?_
  refine hf_bipush (pc := 227) dX12_init_227 (by decide) ?_
  refine hf_bipush (pc := 229) dX12_init_229 (by decide) ?_
  refine hf_iast (pc := 231) dX12_init_231 ?_
  refine hf_dup (pc := 232) (by decide) dX12_init_232 ?_
  refine hf_bipush (pc := 233) dX12_init_233 (by decide) ?_
  refine hf_bipush (pc := 235) dX12_init_235 (by decide) ?_
  refine hf_iast (pc := 237) dX12_init_237 ?_
  refine hf_dup (pc := 238) (by decide) dX12_init_238 ?_
  refine hf_bipush (pc := 239) dX12_init_239 (by decide) ?_
  refine hf_bipush (pc := 241) dX12_init_241 (by decide) ?_
  refine hf_iast (pc := 243) dX12_init_243 ?_
  refine hf_dup (pc := 244) (by decide) dX12_init_244 ?_
  refine hf_bipush (pc := 245) dX12_init_245 (by decide) ?_
  refine hf_bipush (pc := 247) dX12_init_247 (by decide) ?_
  refine hf_iast (pc := 249) dX12_init_249 ?_
  refine hf_dup (pc := 250) (by decide) dX12_init_250 ?_
  refine hf_bipush (pc := 251) dX12_init_251 (by decide) ?_
  refine hf_bipush (pc := 253) dX12_init_253 (by decide) ?_
  refine hf_iast (pc := 255) dX12_init_255 ?_
  refine hf_dup (pc := 256) (by decide) dX12_init_256 ?_
  refine hf_bipush (pc := 257) dX12_init_257 (by decide) ?_
  refine hf_bipush (pc := 259) dX12_init_259 (by decide) ?_
  refine hf_iast (pc := 261) dX12_init_261 ?_
  refine hf_dup (pc := 262) (by decide) dX12_init_262 ?_
  refine hf_bipush (pc := 263) dX12_init_263 (by decide) ?_
  refine hf_bipush (pc := 265) dX12_init_265 (by decide) ?_
  refine hf_iast (pc := 267) dX12_init_267 ?_
  refine hf_dup (pc := 268) (by decide) dX12_init_268 ?_
  refine hf_bipush (pc := 269) dX12_init_269 (by decide) ?_
  refine hf_bipush (pc := 271) dX12_init_271 (by decide) ?_
  refine hf_iast (pc := 273) dX12_init_273 ?_
  refine hf_dup (pc := 274) (by decide) dX12_init_274 ?_
  refine hf_bipush (pc := 275) dX12_init_275 (by decide) ?_
  refine hf_bipush (pc := 277) dX12_init_277 (by decide) ?_
  refine hf_iast (pc := 279) dX12_init_279 ?_
  refine hf_dup (pc := 280) (by decide) dX12_init_280 ?_
  refine hf_bipush (pc := 281) dX12_init_281 (by decide) ?_
  refine hf_bipush (pc := 283) dX12_init_283 (by decide) ?_
  refine hf_iast (pc := 285) dX12_init_285 ?_
  refine hf_dup (pc := 286) (by decide) dX12_init_286 ?_
  refine hf_bipush (pc := 287) dX12_init_287 (by decide) ?_
  refine hf_bipush (pc := 289) dX12_init_289 (by decide) ?_
  refine hf_iast (pc := 291) dX12_init_291 ?_
  refine hf_dup (pc := 292) (by decide) dX12_init_292 ?_
  refine hf_bipush (pc := 293) dX12_init_293 (by decide) ?_
  refine hf_bipush (pc := 295) dX12_init_295 (by decide) ?_
  refine hf_iast (pc := 297) dX12_init_297 ?_
  refine hf_dup (pc := 298) (by decide) dX12_init_298 ?_
  refine hf_bipush (pc := 299) dX12_init_299 (by decide) ?_
  refine hf_bipush (pc := 301) dX12_init_301 (by decide) ?_
  refine hf_iast (pc := 303) dX12_init_303 ?_
  refine hf_dup (pc := 304) (by decide) dX12_init_304 ?_
  refine hf_bipush (pc := 305) dX12_init_305 (by decide) ?_
  refine hf_bipush (pc := 307) dX12_init_307 (by decide) ?_
  refine hf_iast (pc := 309) dX12_init_309 ?_
  refine hf_dup (pc := 310) (by decide) dX12_init_310 ?_
  refine hf_bipush (pc := 311) dX12_init_311 (by decide) ?_
  refine hf_bipush (pc := 313) dX12_init_313 (by decide) ?_
  refine hf_iast (pc := 315) dX12_init_315 ?_
  refine hf_dup (pc := 316) (by decide) dX12_init_316 ?_
  refine hf_bipush (pc := 317) dX12_init_317 (by decide) ?_
  refine hf_bipush (pc := 319) dX12_init_319 (by decide) ?_
  refine hf_iast (pc := 321) dX12_init_321 ?_
  refine hf_dup (pc := 322) (by decide) dX12_init_322 ?_
  refine hf_bipush (pc := 323) dX12_init_323 (by decide) ?_
  refine hf_bipush (pc := 325) dX12_init_325 (by decide) ?_
  refine hf_iast (pc := 327) dX12_init_327 ?_
  refine hf_dup (pc := 328) (by decide) dX12_init_328 ?_
  refine hf_bipush (pc := 329) dX12_init_329 (by decide) ?_
  refine hf_bipush (pc := 331) dX12_init_331 (by decide) ?_
  refine hf_iast (pc := 333) dX12_init_333 ?_
  refine hf_dup (pc := 334) (by decide) dX12_init_334 ?_
  refine hf_bipush (pc := 335) dX12_init_335 (by decide) ?_
  refine hf_bipush (pc := 337) dX12_init_337 (by decide) ?_
  refine hf_iast (pc := 339) dX12_init_339 ?_
  refine hf_dup (pc := 340) (by decide) dX12_init_340 ?_
  refine hf_bipush (pc := 341) dX12_init_341 (by decide) ?_
  refine hf_bipush (pc := 343) dX12_init_343 (by decide) ?_
  refine hf_iast (pc := 345) dX12_init_345 ?_
  refine hf_dup (pc := 346) (by decide) dX12_init_346 ?_
  refine hf_bipush (pc := 347) dX12_init_347 (by decide) ?_
  refine hf_bipush (pc := 349) dX12_init_349 (by decide) ?_
  refine hf_iast (pc := 351) dX12_init_351 ?_
  refine hf_dup (pc := 352) (by decide) dX12_init_352 ?_
  refine hf_bipush (pc := 353) dX12_init_353 (by decide) ?_
  refine hf_bipush (pc := 355) dX12_init_355 (by decide) ?_
  refine hf_iast (pc := 357) dX12_init_357 ?_
  refine hf_dup (pc := 358) (by decide) dX12_init_358 ?_
  refine hf_bipush (pc := 359) dX12_init_359 (by decide) ?_
  refine hf_bipush (pc := 361) dX12_init_361 (by decide) ?_
  refine hf_iast (pc := 363) dX12_init_363 ?_
  refine hf_dup (pc := 364) (by decide) dX12_init_364 ?_
  refine hf_bipush (pc := 365) dX12_init_365 (by decide) ?_
  refine hf_bipush (pc := 367) dX12_init_367 (by decide) ?_
  refine hf_iast (pc := 369) dX12_init_369 ?_
  refine hf_dup (pc := 370) (by decide) dX12_init_370 ?_
  refine hf_bipush (pc := 371) dX12_init_371 (by decide) ?_
  refine hf_bipush (pc := 373) dX12_init_373 (by decide) ?_
  refine hf_iast (pc := 375) dX12_init_375 ?_
  refine hf_dup (pc := 376) (by decide) dX12_init_376 ?_
  refine hf_bipush (pc := 377) dX12_init_377 (by decide) ?_
  refine hf_bipush (pc := 379) dX12_init_379 (by decide) ?_
  refine hf_iast (pc := 381) dX12_init_381 ?_
  refine hf_dup (pc := 382) (by decide) dX12_init_382 ?_
  refine hf_bipush (pc := 383) dX12_init_383 (by decide) ?_
  refine hf_bipush (pc := 385) dX12_init_385 (by decide) ?_
  refine hf_iast (pc := 387) dX12_init_387 ?_
  refine hf_dup (pc := 388) (by decide) dX12_init_388 ?_
  refine hf_bipush (pc := 389) dX12_init_389 (by decide) ?_
  refine hf_bipush (pc := 391) dX12_init_391 (by decide) ?_
  refine hf_iast (pc := 393) dX12_init_393 ?_
  refine hf_dup (pc := 394) (by decide) dX12_init_394 ?_
  refine hf_bipush (pc := 395) dX12_init_395 (by decide) ?_
  refine hf_bipush (pc := 397) dX12_init_397 (by decide) ?_
  refine hf_iast (pc := 399) dX12_init_399 ?_
  refine hf_dup (pc := 400) (by decide) dX12_init_400 ?_
  refine hf_bipush (pc := 401) dX12_init_401 (by decide) ?_
  refine hf_bipush (pc := 403) dX12_init_403 (by decide) ?_
  refine hf_iast (pc := 405) dX12_init_405 ?_
  refine hf_dup (pc := 406) (by decide) dX12_init_406 ?_
  refine hf_bipush (pc := 407) dX12_init_407 (by decide) ?_
  refine hf_bipush (pc := 409) dX12_init_409 (by decide) ?_
  refine hf_iast (pc := 411) dX12_init_411 ?_
  refine hf_dup (pc := 412) (by decide) dX12_init_412 ?_
  refine hf_bipush (pc := 413) dX12_init_413 (by decide) ?_
  refine hf_bipush (pc := 415) dX12_init_415 (by decide) ?_
  refine hf_iast (pc := 417) dX12_init_417 ?_
  refine hf_dup (pc := 418) (by decide) dX12_init_418 ?_
  refine hf_bipush (pc := 419) dX12_init_419 (by decide) ?_
  refine hf_bipush (pc := 421) dX12_init_421 (by decide) ?_
  refine hf_iast (pc := 423) dX12_init_423 ?_
  refine hf_dup (pc := 424) (by decide) dX12_init_424 ?_
  refine hf_bipush (pc := 425) dX12_init_425 (by decide) ?_
  refine hf_bipush (pc := 427) dX12_init_427 (by decide) ?_
  refine hf_iast (pc := 429) dX12_init_429 ?_
  refine hf_dup (pc := 430) (by decide) dX12_init_430 ?_
  refine hf_bipush (pc := 431) dX12_init_431 (by decide) ?_
  refine hf_bipush (pc := 433) dX12_init_433 (by decide) ?_
  refine hf_iast (pc := 435) dX12_init_435 ?_
  refine hf_dup (pc := 436) (by decide) dX12_init_436 ?_
  refine hf_bipush (pc := 437) dX12_init_437 (by decide) ?_
  refine hf_bipush (pc := 439) dX12_init_439 (by decide) ?_
  refine hf_iast (pc := 441) dX12_init_441 ?_
  refine hf_dup (pc := 442) (by decide) dX12_init_442 ?_
  refine hf_bipush (pc := 443) dX12_init_443 (by decide) ?_
  refine hf_bipush (pc := 445) dX12_init_445 (by decide) ?_
  refine hf_iast (pc := 447) dX12_init_447 ?_
  refine hf_dup (pc := 448) (by decide) dX12_init_448 ?_
  refine hf_bipush (pc := 449) dX12_init_449 (by decide) ?_
  refine hf_bipush (pc := 451) dX12_init_451 (by decide) ?_
  refine hf_iast (pc := 453) dX12_init_453 ?_
  refine hf_dup (pc := 454) (by decide) dX12_init_454 ?_
  refine hf_bipush (pc := 455) dX12_init_455 (by decide) ?_
  refine hf_bipush (pc := 457) dX12_init_457 (by decide) ?_
  refine hf_iast (pc := 459) dX12_init_459 ?_
  refine hf_dup (pc := 460) (by decide) dX12_init_460 ?_
  refine hf_bipush (pc := 461) dX12_init_461 (by decide) ?_
  refine hf_bipush (pc := 463) dX12_init_463 (by decide) ?_
  refine hf_iast (pc := 465) dX12_init_465 ?_
  refine hf_putfF (pc := 466) fl_X12_32 rfl (fun q hq => by cases hq; rfl) trivial dX12_init_466 ?_
  refine hf_ald_n (pc := 469) 0 rfl rfl dX12_init_469 ?_
  refine hf_iconst (pc := 470) dX12_init_470 ?_
  refine hf_putf (pc := 471) fl_X12_35 trivial dX12_init_471 ?_
  refine hf_ald_n (pc := 474) 0 rfl rfl dX12_init_474 ?_
  refine hf_sipush (pc := 475) dX12_init_475 (by decide) ?_
  refine hf_newa0 (pc := 478) (tg := 20) (by decide) (by decide) rfl ac_int dX12_init_478 (fun v478 => ?_)
  refine hf_putfF (pc := 480) fl_X12_38 rfl (fun q hq => by cases hq; rfl) trivial dX12_init_480 ?_
  refine hf_ald_n (pc := 483) 0 rfl rfl dX12_init_483 ?_
  refine hf_sipush (pc := 484) dX12_init_484 (by decide) ?_
  refine hf_newa0 (pc := 487) (tg := 20) (by decide) (by decide) rfl ac_int dX12_init_487 (fun v487 => ?_)
  refine hf_putfF (pc := 489) fl_X12_41 rfl (fun q hq => by cases hq; rfl) trivial dX12_init_489 ?_
  refine hf_ald_n (pc := 492) 0 rfl rfl dX12_init_492 ?_
  refine hf_sipush (pc := 493) dX12_init_493 (by decide) ?_
  refine hf_newa0 (pc := 496) (tg := 20) (by decide) (by decide) rfl ac_int dX12_init_496 (fun v496 => ?_)
  refine hf_putfF (pc := 498) fl_X12_44 rfl (fun q hq => by cases hq; rfl) trivial dX12_init_498 ?_
  refine hf_ald_n (pc := 501) 0 rfl rfl dX12_init_501 ?_
  refine hf_bipush (pc := 502) dX12_init_502 (by decide) ?_
  refine hf_newa0 (pc := 504) (tg := 20) (by decide) (by decide) rfl ac_int dX12_init_504 (fun v504 => ?_)
  refine hf_putfF (pc := 506) fl_X12_47 rfl (fun q hq => by cases hq; rfl) trivial dX12_init_506 ?_
  refine hf_ald_n (pc := 509) 0 rfl rfl dX12_init_509 ?_
  refine hf_bipush (pc := 510) dX12_init_510 (by decide) ?_
  refine hf_newa0 (pc := 512) (tg := 20) (by decide) (by decide) rfl ac_int dX12_init_512 (fun v512 => ?_)
  refine hf_putfF (pc := 514) fl_X12_50 rfl (fun q hq => by cases hq; rfl) trivial dX12_init_514 ?_
  refine hf_ald_n (pc := 517) 0 rfl rfl dX12_init_517 ?_
  refine hf_bipush (pc := 518) dX12_init_518 (by decide) ?_
  refine hf_newa0 (pc := 520) (tg := 20) (by decide) (by decide) rfl ac_int dX12_init_520 (fun v520 => ?_)
  refine hf_putfF (pc := 522) fl_X12_53 rfl (fun q hq => by cases hq; rfl) trivial dX12_init_522 ?_
  refine hf_ald_n (pc := 525) 0 rfl rfl dX12_init_525 ?_
  refine hf_bipush (pc := 526) dX12_init_526 (by decide) ?_
  refine hf_newa0 (pc := 528) (tg := 20) (by decide) (by decide) rfl ac_int dX12_init_528 (fun v528 => ?_)
  refine hf_putfF (pc := 530) fl_X12_56 rfl (fun q hq => by cases hq; rfl) trivial dX12_init_530 ?_
  refine hf_ald_n (pc := 533) 0 rfl rfl dX12_init_533 ?_
  refine hf_bipush (pc := 534) dX12_init_534 (by decide) ?_
  refine hf_newa0 (pc := 536) (tg := 20) (by decide) (by decide) rfl ac_int dX12_init_536 (fun v536 => ?_)
  refine hf_putfF (pc := 538) fl_X12_59 rfl (fun q hq => by cases hq; rfl) trivial dX12_init_538 ?_
  refine hf_ald_n (pc := 541) 0 rfl rfl dX12_init_541 ?_
  refine hf_bipush (pc := 542) dX12_init_542 (by decide) ?_
  refine hf_newa0 (pc := 544) (tg := 20) (by decide) (by decide) rfl ac_int dX12_init_544 (fun v544 => ?_)
  refine hf_putfF (pc := 546) fl_X12_62 rfl (fun q hq => by cases hq; rfl) trivial dX12_init_546 ?_
  refine hf_ald_n (pc := 549) 0 rfl rfl dX12_init_549 ?_
  refine hf_bipush (pc := 550) dX12_init_550 (by decide) ?_
  refine hf_newa0 (pc := 552) (tg := 20) (by decide) (by decide) rfl ac_int dX12_init_552 (fun v552 => ?_)
  refine hf_putfF (pc := 554) fl_X12_65 rfl (fun q hq => by cases hq; rfl) trivial dX12_init_554 ?_
  refine hf_ald_n (pc := 557) 0 rfl rfl dX12_init_557 ?_
  refine hf_bipush (pc := 558) dX12_init_558 (by decide) ?_
  refine hf_newa0 (pc := 560) (tg := 21) (by decide) (by decide) rfl ac_long dX12_init_560 (fun v560 => ?_)
  refine hf_putfF (pc := 562) fl_X12_68 rfl (fun q hq => by cases hq; rfl) trivial dX12_init_562 ?_
  refine hf_ald_n (pc := 565) 0 rfl rfl dX12_init_565 ?_
  refine hf_bipush (pc := 566) dX12_init_566 (by decide) ?_
  refine hf_newa0 (pc := 568) (tg := 21) (by decide) (by decide) rfl ac_long dX12_init_568 (fun v568 => ?_)
  refine hf_putfF (pc := 570) fl_X12_72 rfl (fun q hq => by cases hq; rfl) trivial dX12_init_570 ?_
  refine hf_ald_n (pc := 573) 0 rfl rfl dX12_init_573 ?_
  refine hf_sipush (pc := 574) dX12_init_574 (by decide) ?_
  refine hf_newa0 (pc := 577) (tg := 20) (by decide) (by decide) rfl ac_int dX12_init_577 (fun v577 => ?_)
  refine hf_putfF (pc := 579) fl_X12_75 rfl (fun q hq => by cases hq; rfl) trivial dX12_init_579 ?_
  refine hf_ald_n (pc := 582) 0 rfl rfl dX12_init_582 ?_
  refine hf_sipush (pc := 583) dX12_init_583 (by decide) ?_
  refine hf_newa0 (pc := 586) (tg := 20) (by decide) (by decide) rfl ac_int dX12_init_586 (fun v586 => ?_)
  refine hf_putfF (pc := 588) fl_X12_78 rfl (fun q hq => by cases hq; rfl) trivial dX12_init_588 ?_
  refine hf_ald_n (pc := 591) 0 rfl rfl dX12_init_591 ?_
  refine hf_sipush (pc := 592) dX12_init_592 (by decide) ?_
  refine hf_newa0 (pc := 595) (tg := 20) (by decide) (by decide) rfl ac_int dX12_init_595 (fun v595 => ?_)
  refine hf_putfF (pc := 597) fl_X12_81 rfl (fun q hq => by cases hq; rfl) trivial dX12_init_597 ?_
  refine hf_ald_n (pc := 600) 0 rfl rfl dX12_init_600 ?_
  refine hf_ldc (pc := 601) (n := 210125) co_X12_84 (by decide) dX12_init_601 ?_
  refine hf_newa0 (pc := 603) (tg := 21) (by decide) (by decide) rfl ac_long dX12_init_603 (fun v603 => ?_)
  refine hf_putfF (pc := 605) fl_X12_85 rfl (fun q hq => by cases hq; rfl) trivial dX12_init_605 ?_
  refine hf_ald_n (pc := 608) 0 rfl rfl dX12_init_608 ?_
  refine hf_bipush (pc := 609) dX12_init_609 (by decide) ?_
  refine hf_newa0 (pc := 611) (tg := 20) (by decide) (by decide) rfl ac_int dX12_init_611 (fun v611 => ?_)
  refine hf_putfF (pc := 613) fl_X12_88 rfl (fun q hq => by cases hq; rfl) trivial dX12_init_613 ?_
  refine hf_ald_n (pc := 616) 0 rfl rfl dX12_init_616 ?_
  refine hf_ldc (pc := 617) (n := 344605) co_X12_91 (by decide) dX12_init_617 ?_
  refine hf_newa0 (pc := 619) (tg := 20) (by decide) (by decide) rfl ac_int dX12_init_619 (fun v619 => ?_)
  refine hf_putfF (pc := 621) fl_X12_92 rfl (fun q hq => by cases hq; rfl) trivial dX12_init_621 ?_
  refine hf_ald_n (pc := 624) 0 rfl rfl dX12_init_624 ?_
  refine hf_sipush (pc := 625) dX12_init_625 (by decide) ?_
  refine hf_newa0 (pc := 628) (tg := 20) (by decide) (by decide) rfl ac_int dX12_init_628 (fun v628 => ?_)
  refine hf_putfF (pc := 630) fl_X12_95 rfl (fun q hq => by cases hq; rfl) trivial dX12_init_630 ?_
  refine hf_ald_n (pc := 633) 0 rfl rfl dX12_init_633 ?_
  refine hf_ldc (pc := 634) (n := 65536) co_X12_98 (by decide) dX12_init_634 ?_
  refine hf_newa0 (pc := 636) (tg := 20) (by decide) (by decide) rfl ac_int dX12_init_636 (fun v636 => ?_)
  refine hf_putfF (pc := 638) fl_X12_99 rfl (fun q hq => by cases hq; rfl) trivial dX12_init_638 ?_
  refine hf_ald_n (pc := 641) 0 rfl rfl dX12_init_641 ?_
  refine hf_bipush (pc := 642) dX12_init_642 (by decide) ?_
  refine hf_newa0 (pc := 644) (tg := 20) (by decide) (by decide) rfl ac_int dX12_init_644 (fun v644 => ?_)
  refine hf_putfF (pc := 646) fl_X12_102 rfl (fun q hq => by cases hq; rfl) trivial dX12_init_646 ?_
  refine hf_ald_n (pc := 649) 0 rfl rfl dX12_init_649 ?_
  refine hf_bipush (pc := 650) dX12_init_650 (by decide) ?_
  refine hf_newa0 (pc := 652) (tg := 20) (by decide) (by decide) rfl ac_int dX12_init_652 (fun v652 => ?_)
  refine hf_putfF (pc := 654) fl_X12_105 rfl (fun q hq => by cases hq; rfl) trivial dX12_init_654 ?_
  refine hf_ald_n (pc := 657) 0 rfl rfl dX12_init_657 ?_
  refine hf_bipush (pc := 658) dX12_init_658 (by decide) ?_
  refine hf_newa0 (pc := 660) (tg := 20) (by decide) (by decide) rfl ac_int dX12_init_660 (fun v660 => ?_)
  refine hf_putfF (pc := 662) fl_X12_108 rfl (fun q hq => by cases hq; rfl) trivial dX12_init_662 ?_
  refine hf_ald_n (pc := 665) 0 rfl rfl dX12_init_665 ?_
  refine hf_bipush (pc := 666) dX12_init_666 (by decide) ?_
  refine hf_newa0 (pc := 668) (tg := 23) (by decide) (by decide) rfl ac_boolean dX12_init_668 (fun v668 => ?_)
  refine hf_putfF (pc := 670) fl_X12_111 rfl (fun q hq => by cases hq; rfl) trivial dX12_init_670 ?_
  refine hf_ald_n (pc := 673) 0 rfl rfl dX12_init_673 ?_
  refine hf_bipush (pc := 674) dX12_init_674 (by decide) ?_
  refine hf_newa0 (pc := 676) (tg := 23) (by decide) (by decide) rfl ac_boolean dX12_init_676 (fun v676 => ?_)
  refine hf_putfF (pc := 678) fl_X12_115 rfl (fun q hq => by cases hq; rfl) trivial dX12_init_678 ?_
  refine hf_ald_n (pc := 681) 0 rfl rfl dX12_init_681 ?_
  refine hf_bipush (pc := 682) dX12_init_682 (by decide) ?_
  refine hf_newa0 (pc := 684) (tg := 20) (by decide) (by decide) rfl ac_int dX12_init_684 (fun v684 => ?_)
  refine hf_putfF (pc := 686) fl_X12_118 rfl (fun q hq => by cases hq; rfl) trivial dX12_init_686 ?_
  refine hf_ald_n (pc := 689) 0 rfl rfl dX12_init_689 ?_
  refine hf_bipush (pc := 690) dX12_init_690 (by decide) ?_
  refine hf_newa0 (pc := 692) (tg := 20) (by decide) (by decide) rfl ac_int dX12_init_692 (fun v692 => ?_)
  refine hf_putfF (pc := 694) fl_X12_121 rfl (fun q hq => by cases hq; rfl) trivial dX12_init_694 ?_
  refine hf_ald_n (pc := 697) 0 rfl rfl dX12_init_697 ?_
  refine hf_bipush (pc := 698) dX12_init_698 (by decide) ?_
  refine hf_newa0 (pc := 700) (tg := 20) (by decide) (by decide) rfl ac_int dX12_init_700 (fun v700 => ?_)
  refine hf_putfF (pc := 702) fl_X12_124 rfl (fun q hq => by cases hq; rfl) trivial dX12_init_702 ?_
  refine hf_ald_n (pc := 705) 0 rfl rfl dX12_init_705 ?_
  refine hf_getf (pc := 706) fl_X12_20 dX12_init_706 (fun v706 => ?_)
  refine hf_iconst (pc := 709) dX12_init_709 ?_
  refine hf_iconst (pc := 710) dX12_init_710 ?_
  refine hf_iast (pc := 711) dX12_init_711 ?_
  refine hf_iconst (pc := 712) dX12_init_712 ?_
  refine hf_ist_n (pc := 713) (lv' := [(1, 0, 0), (0, 2, x0)]) rfl (by decide) rfl dX12_init_713 ?_
  exact hf_sub [1, 0] rfl (j_X12_init_714 x0 0)
