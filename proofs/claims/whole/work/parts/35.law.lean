/-! HighFallLaw.law([I)Z -/
def M_L_law : hf_D := (yL_law, cL_law, 7, some .boolean, 12, 434)
def f_L_law_1265 (rec_23 : Int → hf_M Int) (x1 x2 x3 x4 : Int) : hf_M Int :=
  hf_bd (hf_ret (x4 + 6)) (fun x4_1265 => rec_23 x4_1265)
def B_L_law_23 (x1 x2 x3 : Int) (rec_23 : Int → hf_M Int) (x4 : Int) : hf_M Int :=
  hf_bd hf_sn (fun v26 => hf_cb x4 (v26 - 6) ((v26 - 6) < x4) (hf_ret 1) (hf_bd (hf_sg x4) (fun v36 => hf_ck (hf_inI (hf_and v36 31)) (hf_it ((hf_and v36 31) = 0) (hf_bd (hf_sg (x4 + 1)) (fun v182 => hf_bd (hf_sg (x4 + 2)) (fun v188 => hf_bd (hf_sg (x4 + 3)) (fun v194 => hf_bd (hf_sg (x4 + 4)) (fun v200 => hf_bd (hf_sg (x4 + 5)) (fun v206 => hf_bd (hf_ob 11 x1 (f_X11_feed x1 v182 v188 v194 v200 v206)) (fun v207 => hf_bd (hf_sg (x4 + 1)) (fun v216 => hf_bd (hf_sg (x4 + 2)) (fun v222 => hf_bd (hf_sg (x4 + 3)) (fun v228 => hf_bd (hf_sg (x4 + 4)) (fun v234 => hf_bd (hf_sg (x4 + 5)) (fun v240 => hf_bd (hf_ob 12 x2 (f_X12_feed x2 v216 v222 v228 v234 v240)) (fun v241 => hf_cb v207 v241 (v207 = v241) (f_L_law_1265 rec_23 x1 x2 x3 x4) (hf_ret 0)))))))))))))) (hf_it ((hf_and v36 31) = 1) (hf_bd (hf_sg (x4 + 1)) (fun v255 => hf_bd (hf_ob 11 x1 (f_X11_stair x1 v255)) (fun v256 => hf_bd (hf_sg (x4 + 1)) (fun v265 => hf_bd (hf_ob 12 x2 (f_X12_stair x2 v265)) (fun v266 => hf_cb v256 v266 (v256 = v266) (f_L_law_1265 rec_23 x1 x2 x3 x4) (hf_ret 0)))))) (hf_it ((hf_and v36 31) = 2) (hf_bd (hf_sg (x4 + 1)) (fun v280 => hf_bd (hf_sg (x4 + 2)) (fun v286 => hf_bd (hf_sg (x4 + 3)) (fun v292 => hf_bd (hf_sg (x4 + 4)) (fun v298 => hf_bd (hf_ob 11 x1 (f_X11_kind x1 v280 v286 v292 v298)) (fun v299 => hf_bd (hf_sg (x4 + 1)) (fun v308 => hf_bd (hf_sg (x4 + 2)) (fun v314 => hf_bd (hf_sg (x4 + 3)) (fun v320 => hf_bd (hf_sg (x4 + 4)) (fun v326 => hf_bd (hf_ob 12 x2 (f_X12_kind x2 v308 v314 v320 v326)) (fun v327 => hf_cb v299 v327 (v299 = v327) (f_L_law_1265 rec_23 x1 x2 x3 x4) (hf_ret 0)))))))))))) (hf_it ((hf_and v36 31) = 3) (hf_bd (hf_sg (x4 + 1)) (fun v341 => hf_bd (hf_sg (x4 + 2)) (fun v347 => hf_bd (hf_ob 11 x1 (f_X11_cost x1 v341 v347)) (fun v348 => hf_bd (hf_sg (x4 + 1)) (fun v357 => hf_bd (hf_sg (x4 + 2)) (fun v363 => hf_bd (hf_ob 12 x2 (f_X12_cost x2 v357 v363)) (fun v364 => hf_cb v348 v364 (v348 = v364) (f_L_law_1265 rec_23 x1 x2 x3 x4) (hf_ret 0)))))))) (hf_it ((hf_and v36 31) = 4) (hf_bd (hf_sg (x4 + 1)) (fun v378 => hf_bd (hf_sg (x4 + 2)) (fun v384 => hf_bd (hf_ob 11 x1 (f_X11_weight x1 v378 v384)) (fun v385 => hf_bd (hf_sg (x4 + 1)) (fun v394 => hf_bd (hf_sg (x4 + 2)) (fun v400 => hf_bd (hf_ob 12 x2 (f_X12_weight x2 v394 v400)) (fun v401 => hf_cb v385 v401 (v385 = v401) (f_L_law_1265 rec_23 x1 x2 x3 x4) (hf_ret 0)))))))) (hf_it ((hf_and v36 31) = 5) (hf_bd (hf_sg (x4 + 1)) (fun v415 => hf_bd (hf_sg (x4 + 2)) (fun v421 => hf_bd (f_L_look x1 v415 v421 x3) (fun v423 => hf_bd (hf_sg (x4 + 1)) (fun v434 => hf_bd (hf_sg (x4 + 2)) (fun v440 => hf_bd (hf_ob 12 x2 (f_X12_look x2 v434 v440)) (fun v441 => hf_bd (hf_ob 12 x2 (f_X12_thrown x2)) (fun v447 => hf_cb v447 v423 (v447 = v423) (hf_cz v423 (¬ v423 = 0) (f_L_law_1265 rec_23 x1 x2 x3 x4) (hf_bd (hf_al 21 x3 0) (fun v464 => hf_ck (hf_inI v441) (hf_cl v464 v441 (v464 = v441) (f_L_law_1265 rec_23 x1 x2 x3 x4) (hf_ret 0))))) (hf_ret 0))))))))) (hf_it ((hf_and v36 31) = 6) (hf_bd (hf_sg (x4 + 1)) (fun v483 => hf_bd (hf_ob 11 x1 (f_X11_likely x1 v483)) (fun v484 => hf_bd (hf_sg (x4 + 1)) (fun v493 => hf_bd (hf_ob 12 x2 (f_X12_likely x2 v493)) (fun v494 => hf_cb v484 v494 (v484 = v494) (f_L_law_1265 rec_23 x1 x2 x3 x4) (hf_ret 0)))))) (hf_it ((hf_and v36 31) = 7) (hf_bd (hf_sg (x4 + 1)) (fun v508 => hf_bd (hf_ob 11 x1 (f_X11_plan x1 v508)) (fun v509 => hf_bd (hf_sg (x4 + 1)) (fun v518 => hf_bd (hf_ob 12 x2 (f_X12_plan x2 v518)) (fun v519 => hf_cb v509 v519 (v509 = v519) (f_L_law_1265 rec_23 x1 x2 x3 x4) (hf_ret 0)))))) (hf_it ((hf_and v36 31) = 8) (hf_bd (hf_sg (x4 + 1)) (fun v533 => hf_bd (hf_ob 11 x1 (f_X11_fault x1 v533)) (fun v534 => hf_bd (hf_sg (x4 + 1)) (fun v543 => hf_bd (hf_ob 12 x2 (f_X12_fault x2 v543)) (fun v544 => hf_cb v534 v544 (v534 = v544) (f_L_law_1265 rec_23 x1 x2 x3 x4) (hf_ret 0)))))) (hf_it ((hf_and v36 31) = 9) (hf_bd (hf_sg (x4 + 1)) (fun v558 => hf_bd (hf_sg (x4 + 2)) (fun v564 => hf_bd (hf_ob 11 x1 (f_X11_tried x1 v558 v564)) (fun v565 => hf_bd (hf_sg (x4 + 1)) (fun v574 => hf_bd (hf_sg (x4 + 2)) (fun v580 => hf_bd (hf_ob 12 x2 (f_X12_tried x2 v574 v580)) (fun v581 => hf_cl v565 v581 (v565 = v581) (f_L_law_1265 rec_23 x1 x2 x3 x4) (hf_ret 0)))))))) (hf_it ((hf_and v36 31) = 10) (hf_bd (hf_sg (x4 + 1)) (fun v596 => hf_bd (hf_sg (x4 + 2)) (fun v602 => hf_bd (hf_sg (x4 + 3)) (fun v608 => hf_bd (hf_ob 11 x1 (f_X11_fall x1 v596 v602 v608)) (fun v609 => hf_bd (hf_sg (x4 + 1)) (fun v618 => hf_bd (hf_sg (x4 + 2)) (fun v624 => hf_bd (hf_sg (x4 + 3)) (fun v630 => hf_bd (hf_ob 12 x2 (f_X12_fall x2 v618 v624 v630)) (fun v631 => hf_cb v609 v631 (v609 = v631) (f_L_law_1265 rec_23 x1 x2 x3 x4) (hf_ret 0)))))))))) (hf_it ((hf_and v36 31) = 11) (hf_bd (hf_sg (x4 + 1)) (fun v645 => hf_bd (hf_ob 11 x1 (f_X11_judge x1 v645)) (fun v646 => hf_bd (hf_sg (x4 + 1)) (fun v655 => hf_bd (hf_ob 12 x2 (f_X12_judge x2 v655)) (fun v656 => hf_cl v646 v656 (v646 = v656) (f_L_law_1265 rec_23 x1 x2 x3 x4) (hf_ret 0)))))) (hf_it ((hf_and v36 31) = 12) (hf_bd (hf_sg (x4 + 1)) (fun v671 => hf_bd (hf_ob 11 x1 (f_X11_best x1 v671)) (fun v672 => hf_bd (hf_sg (x4 + 1)) (fun v681 => hf_bd (hf_ob 12 x2 (f_X12_best x2 v681)) (fun v682 => hf_cl v672 v682 (v672 = v682) (f_L_law_1265 rec_23 x1 x2 x3 x4) (hf_ret 0)))))) (hf_it ((hf_and v36 31) = 13) (hf_bd (hf_sg (x4 + 1)) (fun v697 => hf_bd (hf_sg (x4 + 2)) (fun v703 => hf_bd (hf_sg (x4 + 3)) (fun v709 => hf_bd (hf_sg (x4 + 4)) (fun v715 => hf_bd (hf_sg (x4 + 5)) (fun v721 => hf_bd (hf_ob 11 x1 (f_X11_next x1 v697 v703 v709 v715 v721)) (fun v722 => hf_bd (hf_sg (x4 + 1)) (fun v731 => hf_bd (hf_sg (x4 + 2)) (fun v737 => hf_bd (hf_sg (x4 + 3)) (fun v743 => hf_bd (hf_sg (x4 + 4)) (fun v749 => hf_bd (hf_sg (x4 + 5)) (fun v755 => hf_bd (hf_ob 12 x2 (f_X12_next x2 v731 v737 v743 v749 v755)) (fun v756 => hf_cl v722 v756 (v722 = v756) (f_L_law_1265 rec_23 x1 x2 x3 x4) (hf_ret 0)))))))))))))) (hf_it ((hf_and v36 31) = 14) (hf_bd (hf_sg (x4 + 1)) (fun v771 => hf_bd (hf_sg (x4 + 2)) (fun v777 => hf_bd (hf_ob 11 x1 (f_X11_edge x1 v771 v777)) (fun v778 => hf_bd (hf_sg (x4 + 1)) (fun v787 => hf_bd (hf_sg (x4 + 2)) (fun v793 => hf_bd (hf_ob 12 x2 (f_X12_edge x2 v787 v793)) (fun v794 => hf_cb v778 v794 (v778 = v794) (f_L_law_1265 rec_23 x1 x2 x3 x4) (hf_ret 0)))))))) (hf_it ((hf_and v36 31) = 15) (hf_bd (hf_sg (x4 + 1)) (fun v808 => hf_bd (hf_sg (x4 + 2)) (fun v814 => hf_bd (hf_ob 11 x1 (f_X11_weak x1 v808 v814)) (fun v815 => hf_bd (hf_sg (x4 + 1)) (fun v824 => hf_bd (hf_sg (x4 + 2)) (fun v830 => hf_bd (hf_ob 12 x2 (f_X12_weak x2 v824 v830)) (fun v831 => hf_cb v815 v831 (v815 = v831) (f_L_law_1265 rec_23 x1 x2 x3 x4) (hf_ret 0)))))))) (hf_it ((hf_and v36 31) = 16) (hf_bd (hf_sg (x4 + 1)) (fun v845 => hf_bd (hf_sg (x4 + 2)) (fun v851 => hf_bd (hf_ob 11 x1 (f_X11_rounds x1 v845 v851)) (fun v852 => hf_bd (hf_sg (x4 + 1)) (fun v861 => hf_bd (hf_sg (x4 + 2)) (fun v867 => hf_bd (hf_ob 12 x2 (f_X12_rounds x2 v861 v867)) (fun v868 => hf_cb v852 v868 (v852 = v868) (f_L_law_1265 rec_23 x1 x2 x3 x4) (hf_ret 0)))))))) (hf_it ((hf_and v36 31) = 17) (hf_bd (hf_sg (x4 + 1)) (fun v882 => hf_bd (hf_sg (x4 + 2)) (fun v888 => hf_bd (hf_ob 11 x1 (f_X11_lies x1 v882 v888)) (fun v889 => hf_bd (hf_sg (x4 + 1)) (fun v898 => hf_bd (hf_sg (x4 + 2)) (fun v904 => hf_bd (hf_ob 12 x2 (f_X12_lies x2 v898 v904)) (fun v905 => hf_cb v889 v905 (v889 = v905) (f_L_law_1265 rec_23 x1 x2 x3 x4) (hf_ret 0)))))))) (hf_it ((hf_and v36 31) = 18) (hf_bd (hf_sg (x4 + 1)) (fun v919 => hf_bd (hf_sg (x4 + 2)) (fun v925 => hf_bd (hf_sg (x4 + 3)) (fun v931 => hf_bd (hf_sg (x4 + 4)) (fun v937 => hf_ck (hf_inI v937) (hf_bd (hf_ret (if v937 = 0 then 0 else 1)) (fun w946 => hf_bd (hf_ob 11 x1 (f_X11_note x1 v919 v925 v931 w946)) (fun v946 => hf_bd (hf_sg (x4 + 1)) (fun v955 => hf_bd (hf_sg (x4 + 2)) (fun v961 => hf_bd (hf_sg (x4 + 3)) (fun v967 => hf_bd (hf_sg (x4 + 4)) (fun v973 => hf_ck (hf_inI v973) (hf_bd (hf_ret (if v973 = 0 then 0 else 1)) (fun w982 => hf_bd (hf_ob 12 x2 (f_X12_note x2 v955 v961 v967 w982)) (fun v982 => hf_cb v946 v982 (v946 = v982) (f_L_law_1265 rec_23 x1 x2 x3 x4) (hf_ret 0)))))))))))))))) (hf_it ((hf_and v36 31) = 19) (hf_bd (hf_sg (x4 + 1)) (fun v996 => hf_bd (hf_ob 11 x1 (f_X11_strike x1 v996)) (fun v997 => hf_bd (hf_sg (x4 + 1)) (fun v1006 => hf_bd (hf_ob 12 x2 (f_X12_strike x2 v1006)) (fun v1007 => hf_cb v997 v1007 (v997 = v1007) (f_L_law_1265 rec_23 x1 x2 x3 x4) (hf_ret 0)))))) (hf_it ((hf_and v36 31) = 20) (hf_bd (hf_sg (x4 + 1)) (fun v1021 => hf_bd (hf_ob 11 x1 (f_X11_fitting x1 v1021)) (fun v1022 => hf_bd (hf_sg (x4 + 1)) (fun v1031 => hf_bd (hf_ob 12 x2 (f_X12_fitting x2 v1031)) (fun v1032 => hf_cb v1022 v1032 (v1022 = v1032) (f_L_law_1265 rec_23 x1 x2 x3 x4) (hf_ret 0)))))) (hf_it ((hf_and v36 31) = 21) (hf_bd (hf_sg (x4 + 1)) (fun v1046 => hf_bd (hf_ob 11 x1 (f_X11_doubt x1 v1046)) (fun v1047 => hf_bd (hf_sg (x4 + 1)) (fun v1056 => hf_bd (hf_ob 12 x2 (f_X12_doubt x2 v1056)) (fun v1057 => hf_cb v1047 v1057 (v1047 = v1057) (f_L_law_1265 rec_23 x1 x2 x3 x4) (hf_ret 0)))))) (hf_it ((hf_and v36 31) = 22) (hf_bd (hf_sg (x4 + 1)) (fun v1071 => hf_bd (hf_ob 11 x1 (f_X11_least x1 v1071)) (fun v1072 => hf_bd (hf_sg (x4 + 1)) (fun v1081 => hf_bd (hf_ob 12 x2 (f_X12_least x2 v1081)) (fun v1082 => hf_cb v1072 v1082 (v1072 = v1082) (f_L_law_1265 rec_23 x1 x2 x3 x4) (hf_ret 0)))))) (hf_it ((hf_and v36 31) = 23) (hf_bd (hf_sg (x4 + 1)) (fun v1096 => hf_bd (hf_ob 11 x1 (f_X11_doubted x1 v1096)) (fun v1097 => hf_bd (hf_sg (x4 + 1)) (fun v1106 => hf_bd (hf_ob 12 x2 (f_X12_doubted x2 v1106)) (fun v1107 => hf_cb v1097 v1107 (v1097 = v1107) (f_L_law_1265 rec_23 x1 x2 x3 x4) (hf_ret 0)))))) (hf_it ((hf_and v36 31) = 24) (hf_bd (hf_sg (x4 + 1)) (fun v1121 => hf_bd (hf_ob 11 x1 (f_X11_parts x1 v1121)) (fun v1122 => hf_bd (hf_sg (x4 + 1)) (fun v1131 => hf_bd (hf_ob 12 x2 (f_X12_parts x2 v1131)) (fun v1132 => hf_cb v1122 v1132 (v1122 = v1132) (f_L_law_1265 rec_23 x1 x2 x3 x4) (hf_ret 0)))))) (hf_it ((hf_and v36 31) = 25) (hf_bd (hf_sg (x4 + 1)) (fun v1146 => hf_bd (hf_ob 11 x1 (f_X11_begin x1 v1146)) (fun v1147 => hf_bd (hf_sg (x4 + 1)) (fun v1156 => hf_bd (hf_ob 12 x2 (f_X12_begin x2 v1156)) (fun v1157 => hf_cb v1147 v1157 (v1147 = v1157) (f_L_law_1265 rec_23 x1 x2 x3 x4) (hf_ret 0)))))) (hf_it ((hf_and v36 31) = 26) (hf_bd (hf_sg (x4 + 1)) (fun v1171 => hf_bd (hf_sg (x4 + 2)) (fun v1177 => hf_bd (hf_ob 11 x1 (f_X11_drop x1 v1171 v1177)) (fun v1178 => hf_bd (hf_sg (x4 + 1)) (fun v1187 => hf_bd (hf_sg (x4 + 2)) (fun v1193 => hf_bd (hf_ob 12 x2 (f_X12_drop x2 v1187 v1193)) (fun v1194 => hf_cb v1178 v1194 (v1178 = v1194) (f_L_law_1265 rec_23 x1 x2 x3 x4) (hf_ret 0)))))))) (hf_it ((hf_and v36 31) = 27) (hf_bd (hf_ob 11 x1 (f_X11_back x1)) (fun v1203 => hf_bd (hf_ob 12 x2 (f_X12_back x2)) (fun v1207 => hf_cb v1203 v1207 (v1203 = v1207) (f_L_law_1265 rec_23 x1 x2 x3 x4) (hf_ret 0)))) (hf_it ((hf_and v36 31) = 28) (hf_bd (hf_sg (x4 + 1)) (fun v1221 => hf_bd (hf_ob 11 x1 (f_X11_now x1 v1221)) (fun v1222 => hf_bd (hf_sg (x4 + 1)) (fun v1231 => hf_bd (hf_ob 12 x2 (f_X12_now x2 v1231)) (fun v1232 => hf_cb v1222 v1232 (v1222 = v1232) (f_L_law_1265 rec_23 x1 x2 x3 x4) (hf_ret 0)))))) (hf_it ((hf_and v36 31) = 29) (hf_bd (hf_sg (x4 + 1)) (fun v1246 => hf_bd (hf_ob 11 x1 (f_X11_count x1 v1246)) (fun v1247 => hf_bd (hf_sg (x4 + 1)) (fun v1256 => hf_bd (hf_ob 12 x2 (f_X12_count x2 v1256)) (fun v1257 => hf_cb v1247 v1257 (v1247 = v1257) (f_L_law_1265 rec_23 x1 x2 x3 x4) (hf_ret 0)))))) (f_L_law_1265 rec_23 x1 x2 x3 x4))))))))))))))))))))))))))))))))))
def f_L_law_23 (x1 x2 x3 x4 : Int) : hf_M Int := hf_fx (fun rec s => B_L_law_23 x1 x2 x3 rec s) hf_N x4
def f_L_law : hf_M Int :=
  hf_bd (hf_nw 11 15) (fun v0 => hf_bd (hf_ob 11 v0 (f_X11_init v0)) (fun _ => hf_bd (hf_nw 12 69) (fun v8 => hf_bd (hf_ob 12 v8 (f_X12_init v8)) (fun _ => hf_bd (hf_na 21 1) (fun v17 => f_L_law_23 v0 v8 v17 0)))))
set_option maxRecDepth 20000 in
theorem j_L_law_1265 (x1 x2 x3 x4 : Int) (rec_23 : Int → hf_M Int) (hrec_23 : ∀ s : Int, hf_J M_L_law 23 [(0, 2, (-1)), (1, 2, x1), (2, 2, x2), (3, 2, x3), (4, 0, s)] [] (rec_23 s)) : hf_J M_L_law 1265 [(0, 2, (-1)), (1, 2, x1), (2, 2, x2), (3, 2, x3), (4, 0, x4)] [] (f_L_law_1265 rec_23 x1 x2 x3 x4) := by
  refine hf_iincB (pc := 1265) (fun y => [(4, 0, y), (0, 2, (-1)), (1, 2, x1), (2, 2, x2), (3, 2, x3)]) (q := 4) rfl (by decide) (fun _ => rfl) dL_law_1265 (fun x4_1265 => ?_)
  refine hf_goto (pc := 1268) 23 dL_law_1268 rfl ?_
  exact hf_sub [1, 2, 3, 4, 0] rfl (hrec_23 x4_1265)
set_option maxRecDepth 20000 in
theorem jb_L_law_23 (x1 x2 x3 : Int) (rec_23 : Int → hf_M Int) (hrec_23 : ∀ s : Int, hf_J M_L_law 23 [(0, 2, (-1)), (1, 2, x1), (2, 2, x2), (3, 2, x3), (4, 0, s)] [] (rec_23 s)) (x4 : Int) : hf_J M_L_law 23 [(0, 2, (-1)), (1, 2, x1), (2, 2, x2), (3, 2, x3), (4, 0, x4)] [] (B_L_law_23 x1 x2 x3 rec_23 x4) := by
  refine hf_ild (pc := 23) 4 rfl dL_law_23 ?_
  refine hf_ald_n (pc := 25) 0 rfl rfl dL_law_25 ?_
  refine hf_sln (pc := 26) dL_law_26 (fun v26 => ?_)
  refine hf_bipush (pc := 27) dL_law_27 (by decide) ?_
  refine hf_isub (pc := 29) dL_law_29 ?_
  refine hf_icmp_gt (pc := 30) 1271 dL_law_30 rfl ?_ ?_
  · refine hf_iconst (pc := 1271) dL_law_1271 ?_
    exact hf_Jret (pc := 1272) (r := 1) ⟨dL_law_1272, Or.inr rfl⟩ (fun _ => rfl)
  · refine hf_ald_n (pc := 33) 0 rfl rfl dL_law_33 ?_
    refine hf_ild (pc := 34) 4 rfl dL_law_34 ?_
    refine hf_sld (pc := 36) dL_law_36 (fun v36 => ?_)
    refine hf_bipush (pc := 37) dL_law_37 (by decide) ?_
    refine hf_iand (pc := 39) dL_law_39 ?_
    refine hf_Jck (fun hr => ?_)
    refine hf_Jit (fun hc0 => ?_) (fun hc0 => ?_)
    · refine hf_tsw (pc := 40) 176 136 hr dL_law_40 (by omega) (by omega) (by rw [hc0]; rfl) rfl ?_
      refine hf_ald_n (pc := 176) 1 rfl rfl dL_law_176 ?_
      refine hf_ald_n (pc := 177) 0 rfl rfl dL_law_177 ?_
      refine hf_ild (pc := 178) 4 rfl dL_law_178 ?_
      refine hf_iconst (pc := 180) dL_law_180 ?_
      refine hf_iadd (pc := 181) dL_law_181 ?_
      refine hf_sld (pc := 182) dL_law_182 (fun v182 => ?_)
      refine hf_ald_n (pc := 183) 0 rfl rfl dL_law_183 ?_
      refine hf_ild (pc := 184) 4 rfl dL_law_184 ?_
      refine hf_iconst (pc := 186) dL_law_186 ?_
      refine hf_iadd (pc := 187) dL_law_187 ?_
      refine hf_sld (pc := 188) dL_law_188 (fun v188 => ?_)
      refine hf_ald_n (pc := 189) 0 rfl rfl dL_law_189 ?_
      refine hf_ild (pc := 190) 4 rfl dL_law_190 ?_
      refine hf_iconst (pc := 192) dL_law_192 ?_
      refine hf_iadd (pc := 193) dL_law_193 ?_
      refine hf_sld (pc := 194) dL_law_194 (fun v194 => ?_)
      refine hf_ald_n (pc := 195) 0 rfl rfl dL_law_195 ?_
      refine hf_ild (pc := 196) 4 rfl dL_law_196 ?_
      refine hf_iconst (pc := 198) dL_law_198 ?_
      refine hf_iadd (pc := 199) dL_law_199 ?_
      refine hf_sld (pc := 200) dL_law_200 (fun v200 => ?_)
      refine hf_ald_n (pc := 201) 0 rfl rfl dL_law_201 ?_
      refine hf_ild (pc := 202) 4 rfl dL_law_202 ?_
      refine hf_iconst (pc := 204) dL_law_204 ?_
      refine hf_iadd (pc := 205) dL_law_205 ?_
      refine hf_sld (pc := 206) dL_law_206 (fun v206 => ?_)
      refine hf_cV (pc := 207) (N := M_X11_feed) (ts := [0, 0, 0, 0, 0]) (vs := [v182, v188, v194, v200, v206]) (st := []) (fun r => [(0, r)]) (c_X11_feed x1 v182 v188 v194 v200 v206) cal_X11_feed ml_L_21 ⟨hf_le rfl, hf_le rfl⟩ (hf_le rfl) ⟨rfl, rfl⟩ rfl dL_law_207 (fun _ => rfl) (fun v207 => ?_)
      refine hf_ald_n (pc := 210) 2 rfl rfl dL_law_210 ?_
      refine hf_ald_n (pc := 211) 0 rfl rfl dL_law_211 ?_
      refine hf_ild (pc := 212) 4 rfl dL_law_212 ?_
      refine hf_iconst (pc := 214) dL_law_214 ?_
      refine hf_iadd (pc := 215) dL_law_215 ?_
      refine hf_sld (pc := 216) dL_law_216 (fun v216 => ?_)
      refine hf_ald_n (pc := 217) 0 rfl rfl dL_law_217 ?_
      refine hf_ild (pc := 218) 4 rfl dL_law_218 ?_
      refine hf_iconst (pc := 220) dL_law_220 ?_
      refine hf_iadd (pc := 221) dL_law_221 ?_
      refine hf_sld (pc := 222) dL_law_222 (fun v222 => ?_)
      refine hf_ald_n (pc := 223) 0 rfl rfl dL_law_223 ?_
      refine hf_ild (pc := 224) 4 rfl dL_law_224 ?_
      refine hf_iconst (pc := 226) dL_law_226 ?_
      refine hf_iadd (pc := 227) dL_law_227 ?_
      refine hf_sld (pc := 228) dL_law_228 (fun v228 => ?_)
      refine hf_ald_n (pc := 229) 0 rfl rfl dL_law_229 ?_
      refine hf_ild (pc := 230) 4 rfl dL_law_230 ?_
      refine hf_iconst (pc := 232) dL_law_232 ?_
      refine hf_iadd (pc := 233) dL_law_233 ?_
      refine hf_sld (pc := 234) dL_law_234 (fun v234 => ?_)
      refine hf_ald_n (pc := 235) 0 rfl rfl dL_law_235 ?_
      refine hf_ild (pc := 236) 4 rfl dL_law_236 ?_
      refine hf_iconst (pc := 238) dL_law_238 ?_
      refine hf_iadd (pc := 239) dL_law_239 ?_
      refine hf_sld (pc := 240) dL_law_240 (fun v240 => ?_)
      refine hf_cV (pc := 241) (N := M_X12_feed) (ts := [0, 0, 0, 0, 0]) (vs := [v216, v222, v228, v234, v240]) (st := [(0, v207)]) (fun r => [(0, r), (0, v207)]) (c_X12_feed x2 v216 v222 v228 v234 v240) cal_X12_feed ml_L_25 ⟨hf_le rfl, hf_le rfl⟩ (hf_le rfl) ⟨rfl, rfl⟩ rfl dL_law_241 (fun _ => rfl) (fun v241 => ?_)
      refine hf_icmp_eq (pc := 244) 1265 dL_law_244 rfl ?_ ?_
      · exact hf_sub [0, 1, 2, 3, 4] rfl (j_L_law_1265 x1 x2 x3 x4 rec_23 hrec_23)
      · refine hf_iconst (pc := 247) dL_law_247 ?_
        exact hf_Jret (pc := 248) (r := 0) ⟨dL_law_248, Or.inl rfl⟩ (fun _ => rfl)
    · refine hf_Jit (fun hc1 => ?_) (fun hc1 => ?_)
      · refine hf_tsw (pc := 40) 249 209 hr dL_law_40 (by omega) (by omega) (by rw [hc1]; rfl) rfl ?_
        refine hf_ald_n (pc := 249) 1 rfl rfl dL_law_249 ?_
        refine hf_ald_n (pc := 250) 0 rfl rfl dL_law_250 ?_
        refine hf_ild (pc := 251) 4 rfl dL_law_251 ?_
        refine hf_iconst (pc := 253) dL_law_253 ?_
        refine hf_iadd (pc := 254) dL_law_254 ?_
        refine hf_sld (pc := 255) dL_law_255 (fun v255 => ?_)
        refine hf_cV (pc := 256) (N := M_X11_stair) (ts := [0]) (vs := [v255]) (st := []) (fun r => [(0, r)]) (c_X11_stair x1 v255) cal_X11_stair ml_L_26 ⟨hf_le rfl, hf_le rfl⟩ (hf_le rfl) ⟨rfl, rfl⟩ rfl dL_law_256 (fun _ => rfl) (fun v256 => ?_)
        refine hf_ald_n (pc := 259) 2 rfl rfl dL_law_259 ?_
        refine hf_ald_n (pc := 260) 0 rfl rfl dL_law_260 ?_
        refine hf_ild (pc := 261) 4 rfl dL_law_261 ?_
        refine hf_iconst (pc := 263) dL_law_263 ?_
        refine hf_iadd (pc := 264) dL_law_264 ?_
        refine hf_sld (pc := 265) dL_law_265 (fun v265 => ?_)
        refine hf_cV (pc := 266) (N := M_X12_stair) (ts := [0]) (vs := [v265]) (st := [(0, v256)]) (fun r => [(0, r), (0, v256)]) (c_X12_stair x2 v265) cal_X12_stair ml_L_30 ⟨hf_le rfl, hf_le rfl⟩ (hf_le rfl) ⟨rfl, rfl⟩ rfl dL_law_266 (fun _ => rfl) (fun v266 => ?_)
        refine hf_icmp_eq (pc := 269) 1265 dL_law_269 rfl ?_ ?_
        · exact hf_sub [0, 1, 2, 3, 4] rfl (j_L_law_1265 x1 x2 x3 x4 rec_23 hrec_23)
        · refine hf_iconst (pc := 272) dL_law_272 ?_
          exact hf_Jret (pc := 273) (r := 0) ⟨dL_law_273, Or.inl rfl⟩ (fun _ => rfl)
      · refine hf_Jit (fun hc2 => ?_) (fun hc2 => ?_)
        · refine hf_tsw (pc := 40) 274 234 hr dL_law_40 (by omega) (by omega) (by rw [hc2]; rfl) rfl ?_
          refine hf_ald_n (pc := 274) 1 rfl rfl dL_law_274 ?_
          refine hf_ald_n (pc := 275) 0 rfl rfl dL_law_275 ?_
          refine hf_ild (pc := 276) 4 rfl dL_law_276 ?_
          refine hf_iconst (pc := 278) dL_law_278 ?_
          refine hf_iadd (pc := 279) dL_law_279 ?_
          refine hf_sld (pc := 280) dL_law_280 (fun v280 => ?_)
          refine hf_ald_n (pc := 281) 0 rfl rfl dL_law_281 ?_
          refine hf_ild (pc := 282) 4 rfl dL_law_282 ?_
          refine hf_iconst (pc := 284) dL_law_284 ?_
          refine hf_iadd (pc := 285) dL_law_285 ?_
          refine hf_sld (pc := 286) dL_law_286 (fun v286 => ?_)
          refine hf_ald_n (pc := 287) 0 rfl rfl dL_law_287 ?_
          refine hf_ild (pc := 288) 4 rfl dL_law_288 ?_
          refine hf_iconst (pc := 290) dL_law_290 ?_
          refine hf_iadd (pc := 291) dL_law_291 ?_
          refine hf_sld (pc := 292) dL_law_292 (fun v292 => ?_)
          refine hf_ald_n (pc := 293) 0 rfl rfl dL_law_293 ?_
          refine hf_ild (pc := 294) 4 rfl dL_law_294 ?_
          refine hf_iconst (pc := 296) dL_law_296 ?_
          refine hf_iadd (pc := 297) dL_law_297 ?_
          refine hf_sld (pc := 298) dL_law_298 (fun v298 => ?_)
          refine hf_cV (pc := 299) (N := M_X11_kind) (ts := [0, 0, 0, 0]) (vs := [v280, v286, v292, v298]) (st := []) (fun r => [(0, r)]) (c_X11_kind x1 v280 v286 v292 v298) cal_X11_kind ml_L_31 ⟨hf_le rfl, hf_le rfl⟩ (hf_le rfl) ⟨rfl, rfl⟩ rfl dL_law_299 (fun _ => rfl) (fun v299 => ?_)
          refine hf_ald_n (pc := 302) 2 rfl rfl dL_law_302 ?_
          refine hf_ald_n (pc := 303) 0 rfl rfl dL_law_303 ?_
          refine hf_ild (pc := 304) 4 rfl dL_law_304 ?_
          refine hf_iconst (pc := 306) dL_law_306 ?_
          refine hf_iadd (pc := 307) dL_law_307 ?_
          refine hf_sld (pc := 308) dL_law_308 (fun v308 => ?_)
          refine hf_ald_n (pc := 309) 0 rfl rfl dL_law_309 ?_
          refine hf_ild (pc := 310) 4 rfl dL_law_310 ?_
          refine hf_iconst (pc := 312) dL_law_312 ?_
          refine hf_iadd (pc := 313) dL_law_313 ?_
          refine hf_sld (pc := 314) dL_law_314 (fun v314 => ?_)
          refine hf_ald_n (pc := 315) 0 rfl rfl dL_law_315 ?_
          refine hf_ild (pc := 316) 4 rfl dL_law_316 ?_
          refine hf_iconst (pc := 318) dL_law_318 ?_
          refine hf_iadd (pc := 319) dL_law_319 ?_
          refine hf_sld (pc := 320) dL_law_320 (fun v320 => ?_)
          refine hf_ald_n (pc := 321) 0 rfl rfl dL_law_321 ?_
          refine hf_ild (pc := 322) 4 rfl dL_law_322 ?_
          refine hf_iconst (pc := 324) dL_law_324 ?_
          refine hf_iadd (pc := 325) dL_law_325 ?_
          refine hf_sld (pc := 326) dL_law_326 (fun v326 => ?_)
          refine hf_cV (pc := 327) (N := M_X12_kind) (ts := [0, 0, 0, 0]) (vs := [v308, v314, v320, v326]) (st := [(0, v299)]) (fun r => [(0, r), (0, v299)]) (c_X12_kind x2 v308 v314 v320 v326) cal_X12_kind ml_L_35 ⟨hf_le rfl, hf_le rfl⟩ (hf_le rfl) ⟨rfl, rfl⟩ rfl dL_law_327 (fun _ => rfl) (fun v327 => ?_)
          refine hf_icmp_eq (pc := 330) 1265 dL_law_330 rfl ?_ ?_
          · exact hf_sub [0, 1, 2, 3, 4] rfl (j_L_law_1265 x1 x2 x3 x4 rec_23 hrec_23)
          · refine hf_iconst (pc := 333) dL_law_333 ?_
            exact hf_Jret (pc := 334) (r := 0) ⟨dL_law_334, Or.inl rfl⟩ (fun _ => rfl)
        · refine hf_Jit (fun hc3 => ?_) (fun hc3 => ?_)
          · refine hf_tsw (pc := 40) 335 295 hr dL_law_40 (by omega) (by omega) (by rw [hc3]; rfl) rfl ?_
            refine hf_ald_n (pc := 335) 1 rfl rfl dL_law_335 ?_
            refine hf_ald_n (pc := 336) 0 rfl rfl dL_law_336 ?_
            refine hf_ild (pc := 337) 4 rfl dL_law_337 ?_
            refine hf_iconst (pc := 339) dL_law_339 ?_
            refine hf_iadd (pc := 340) dL_law_340 ?_
            refine hf_sld (pc := 341) dL_law_341 (fun v341 => ?_)
            refine hf_ald_n (pc := 342) 0 rfl rfl dL_law_342 ?_
            refine hf_ild (pc := 343) 4 rfl dL_law_343 ?_
            refine hf_iconst (pc := 345) dL_law_345 ?_
            refine hf_iadd (pc := 346) dL_law_346 ?_
            refine hf_sld (pc := 347) dL_law_347 (fun v347 => ?_)
            refine hf_cV (pc := 348) (N := M_X11_cost) (ts := [0, 0]) (vs := [v341, v347]) (st := []) (fun r => [(0, r)]) (c_X11_cost x1 v341 v347) cal_X11_cost ml_L_36 ⟨hf_le rfl, hf_le rfl⟩ (hf_le rfl) ⟨rfl, rfl⟩ rfl dL_law_348 (fun _ => rfl) (fun v348 => ?_)
            refine hf_ald_n (pc := 351) 2 rfl rfl dL_law_351 ?_
            refine hf_ald_n (pc := 352) 0 rfl rfl dL_law_352 ?_
            refine hf_ild (pc := 353) 4 rfl dL_law_353 ?_
            refine hf_iconst (pc := 355) dL_law_355 ?_
            refine hf_iadd (pc := 356) dL_law_356 ?_
            refine hf_sld (pc := 357) dL_law_357 (fun v357 => ?_)
            refine hf_ald_n (pc := 358) 0 rfl rfl dL_law_358 ?_
            refine hf_ild (pc := 359) 4 rfl dL_law_359 ?_
            refine hf_iconst (pc := 361) dL_law_361 ?_
            refine hf_iadd (pc := 362) dL_law_362 ?_
            refine hf_sld (pc := 363) dL_law_363 (fun v363 => ?_)
            refine hf_cV (pc := 364) (N := M_X12_cost) (ts := [0, 0]) (vs := [v357, v363]) (st := [(0, v348)]) (fun r => [(0, r), (0, v348)]) (c_X12_cost x2 v357 v363) cal_X12_cost ml_L_40 ⟨hf_le rfl, hf_le rfl⟩ (hf_le rfl) ⟨rfl, rfl⟩ rfl dL_law_364 (fun _ => rfl) (fun v364 => ?_)
            refine hf_icmp_eq (pc := 367) 1265 dL_law_367 rfl ?_ ?_
            · exact hf_sub [0, 1, 2, 3, 4] rfl (j_L_law_1265 x1 x2 x3 x4 rec_23 hrec_23)
            · refine hf_iconst (pc := 370) dL_law_370 ?_
              exact hf_Jret (pc := 371) (r := 0) ⟨dL_law_371, Or.inl rfl⟩ (fun _ => rfl)
          · refine hf_Jit (fun hc4 => ?_) (fun hc4 => ?_)
            · refine hf_tsw (pc := 40) 372 332 hr dL_law_40 (by omega) (by omega) (by rw [hc4]; rfl) rfl ?_
              refine hf_ald_n (pc := 372) 1 rfl rfl dL_law_372 ?_
              refine hf_ald_n (pc := 373) 0 rfl rfl dL_law_373 ?_
              refine hf_ild (pc := 374) 4 rfl dL_law_374 ?_
              refine hf_iconst (pc := 376) dL_law_376 ?_
              refine hf_iadd (pc := 377) dL_law_377 ?_
              refine hf_sld (pc := 378) dL_law_378 (fun v378 => ?_)
              refine hf_ald_n (pc := 379) 0 rfl rfl dL_law_379 ?_
              refine hf_ild (pc := 380) 4 rfl dL_law_380 ?_
              refine hf_iconst (pc := 382) dL_law_382 ?_
              refine hf_iadd (pc := 383) dL_law_383 ?_
              refine hf_sld (pc := 384) dL_law_384 (fun v384 => ?_)
              refine hf_cV (pc := 385) (N := M_X11_weight) (ts := [0, 0]) (vs := [v378, v384]) (st := []) (fun r => [(0, r)]) (c_X11_weight x1 v378 v384) cal_X11_weight ml_L_41 ⟨hf_le rfl, hf_le rfl⟩ (hf_le rfl) ⟨rfl, rfl⟩ rfl dL_law_385 (fun _ => rfl) (fun v385 => ?_)
              refine hf_ald_n (pc := 388) 2 rfl rfl dL_law_388 ?_
              refine hf_ald_n (pc := 389) 0 rfl rfl dL_law_389 ?_
              refine hf_ild (pc := 390) 4 rfl dL_law_390 ?_
              refine hf_iconst (pc := 392) dL_law_392 ?_
              refine hf_iadd (pc := 393) dL_law_393 ?_
              refine hf_sld (pc := 394) dL_law_394 (fun v394 => ?_)
              refine hf_ald_n (pc := 395) 0 rfl rfl dL_law_395 ?_
              refine hf_ild (pc := 396) 4 rfl dL_law_396 ?_
              refine hf_iconst (pc := 398) dL_law_398 ?_
              refine hf_iadd (pc := 399) dL_law_399 ?_
              refine hf_sld (pc := 400) dL_law_400 (fun v400 => ?_)
              refine hf_cV (pc := 401) (N := M_X12_weight) (ts := [0, 0]) (vs := [v394, v400]) (st := [(0, v385)]) (fun r => [(0, r), (0, v385)]) (c_X12_weight x2 v394 v400) cal_X12_weight ml_L_44 ⟨hf_le rfl, hf_le rfl⟩ (hf_le rfl) ⟨rfl, rfl⟩ rfl dL_law_401 (fun _ => rfl) (fun v401 => ?_)
              refine hf_icmp_eq (pc := 404) 1265 dL_law_404 rfl ?_ ?_
              · exact hf_sub [0, 1, 2, 3, 4] rfl (j_L_law_1265 x1 x2 x3 x4 rec_23 hrec_23)
              · refine hf_iconst (pc := 407) dL_law_407 ?_
                exact hf_Jret (pc := 408) (r := 0) ⟨dL_law_408, Or.inl rfl⟩ (fun _ => rfl)
            · refine hf_Jit (fun hc5 => ?_) (fun hc5 => ?_)
              · refine hf_tsw (pc := 40) 409 369 hr dL_law_40 (by omega) (by omega) (by rw [hc5]; rfl) rfl ?_
                refine hf_ald_n (pc := 409) 1 rfl rfl dL_law_409 ?_
                refine hf_ald_n (pc := 410) 0 rfl rfl dL_law_410 ?_
                refine hf_ild (pc := 411) 4 rfl dL_law_411 ?_
                refine hf_iconst (pc := 413) dL_law_413 ?_
                refine hf_iadd (pc := 414) dL_law_414 ?_
                refine hf_sld (pc := 415) dL_law_415 (fun v415 => ?_)
                refine hf_ald_n (pc := 416) 0 rfl rfl dL_law_416 ?_
                refine hf_ild (pc := 417) 4 rfl dL_law_417 ?_
                refine hf_iconst (pc := 419) dL_law_419 ?_
                refine hf_iadd (pc := 420) dL_law_420 ?_
                refine hf_sld (pc := 421) dL_law_421 (fun v421 => ?_)
                refine hf_ald_n (pc := 422) 3 rfl rfl dL_law_422 ?_
                refine hf_cL (pc := 423) ml_L_45 ⟨hf_le rfl, hf_le rfl⟩ (hf_le rfl) dL_law_423 (fun v423 => ?_)
                refine hf_ist (pc := 426) (lv' := [(5, 0, v423), (0, 2, (-1)), (1, 2, x1), (2, 2, x2), (3, 2, x3), (4, 0, x4)]) (by decide) rfl dL_law_426 ?_
                refine hf_ald_n (pc := 428) 3 rfl rfl dL_law_428 ?_
                refine hf_ald_n (pc := 429) 1 rfl rfl dL_law_429 ?_
                refine hf_ild (pc := 430) 5 rfl dL_law_430 ?_
                refine hf_iconst (pc := 432) dL_law_432 ?_
                refine hf_iadd (pc := 433) dL_law_433 ?_
                refine hf_sld (pc := 434) dL_law_434 (fun v434 => ?_)
                refine hf_ald_n (pc := 435) 1 rfl rfl dL_law_435 ?_
                refine hf_ild (pc := 436) 5 rfl dL_law_436 ?_
                refine hf_iconst (pc := 438) dL_law_438 ?_
                refine hf_iadd (pc := 439) dL_law_439 ?_
                refine hf_sld (pc := 440) dL_law_440 (fun v440 => ?_)
                refine hf_cV (pc := 441) (N := M_X12_look) (ts := [0, 0]) (vs := [v434, v440]) (st := []) (fun r => [(0, r)]) (c_X12_look x2 v434 v440) cal_X12_look ml_L_50 ⟨hf_le rfl, hf_le rfl⟩ (hf_le rfl) ⟨rfl, rfl⟩ rfl dL_law_441 (fun _ => rfl) (fun v441 => ?_)
                refine hf_ist (pc := 444) (lv' := [(6, 0, v441), (5, 0, v423), (0, 2, (-1)), (1, 2, x1), (2, 2, x2), (3, 2, x3), (4, 0, x4)]) (by decide) rfl dL_law_444 ?_
                refine hf_ald_n (pc := 446) 4 rfl rfl dL_law_446 ?_
                refine hf_cV (pc := 447) (N := M_X12_thrown) (ts := []) (vs := []) (st := []) (fun r => [(0, r)]) (c_X12_thrown x2) cal_X12_thrown ml_L_51 ⟨hf_le rfl, hf_le rfl⟩ (hf_le rfl) ⟨rfl, rfl⟩ rfl dL_law_447 (fun _ => rfl) (fun v447 => ?_)
                refine hf_ild (pc := 450) 1 rfl dL_law_450 ?_
                refine hf_icmp_eq (pc := 452) 457 dL_law_452 rfl ?_ ?_
                · refine hf_ild (pc := 457) 1 rfl dL_law_457 ?_
                  refine hf_if_ne (pc := 459) 474 dL_law_459 rfl ?_ ?_
                  · refine hf_goto (pc := 474) 1265 dL_law_474 rfl ?_
                    exact hf_sub [2, 3, 4, 5, 6] rfl (j_L_law_1265 x1 x2 x3 x4 rec_23 hrec_23)
                  · refine hf_ald_n (pc := 462) 5 rfl rfl dL_law_462 ?_
                    refine hf_iconst (pc := 463) dL_law_463 ?_
                    refine hf_lald (pc := 464) dL_law_464 (fun v464 => ?_)
                    refine hf_ild (pc := 465) 0 rfl dL_law_465 ?_
                    refine hf_i2l (pc := 467) dL_law_467 ?_
                    refine hf_lcm_eq (pc := 468) 474 dL_law_468 dL_law_469 rfl ?_ ?_
                    · refine hf_goto (pc := 474) 1265 dL_law_474 rfl ?_
                      exact hf_sub [2, 3, 4, 5, 6] rfl (j_L_law_1265 x1 x2 x3 x4 rec_23 hrec_23)
                    · refine hf_iconst (pc := 472) dL_law_472 ?_
                      exact hf_Jret (pc := 473) (r := 0) ⟨dL_law_473, Or.inl rfl⟩ (fun _ => rfl)
                · refine hf_iconst (pc := 455) dL_law_455 ?_
                  exact hf_Jret (pc := 456) (r := 0) ⟨dL_law_456, Or.inl rfl⟩ (fun _ => rfl)
              · refine hf_Jit (fun hc6 => ?_) (fun hc6 => ?_)
                · refine hf_tsw (pc := 40) 477 437 hr dL_law_40 (by omega) (by omega) (by rw [hc6]; rfl) rfl ?_
                  refine hf_ald_n (pc := 477) 1 rfl rfl dL_law_477 ?_
                  refine hf_ald_n (pc := 478) 0 rfl rfl dL_law_478 ?_
                  refine hf_ild (pc := 479) 4 rfl dL_law_479 ?_
                  refine hf_iconst (pc := 481) dL_law_481 ?_
                  refine hf_iadd (pc := 482) dL_law_482 ?_
                  refine hf_sld (pc := 483) dL_law_483 (fun v483 => ?_)
                  refine hf_cV (pc := 484) (N := M_X11_likely) (ts := [0]) (vs := [v483]) (st := []) (fun r => [(0, r)]) (c_X11_likely x1 v483) cal_X11_likely ml_L_55 ⟨hf_le rfl, hf_le rfl⟩ (hf_le rfl) ⟨rfl, rfl⟩ rfl dL_law_484 (fun _ => rfl) (fun v484 => ?_)
                  refine hf_ald_n (pc := 487) 2 rfl rfl dL_law_487 ?_
                  refine hf_ald_n (pc := 488) 0 rfl rfl dL_law_488 ?_
                  refine hf_ild (pc := 489) 4 rfl dL_law_489 ?_
                  refine hf_iconst (pc := 491) dL_law_491 ?_
                  refine hf_iadd (pc := 492) dL_law_492 ?_
                  refine hf_sld (pc := 493) dL_law_493 (fun v493 => ?_)
                  refine hf_cV (pc := 494) (N := M_X12_likely) (ts := [0]) (vs := [v493]) (st := [(0, v484)]) (fun r => [(0, r), (0, v484)]) (c_X12_likely x2 v493) cal_X12_likely ml_L_59 ⟨hf_le rfl, hf_le rfl⟩ (hf_le rfl) ⟨rfl, rfl⟩ rfl dL_law_494 (fun _ => rfl) (fun v494 => ?_)
                  refine hf_icmp_eq (pc := 497) 1265 dL_law_497 rfl ?_ ?_
                  · exact hf_sub [0, 1, 2, 3, 4] rfl (j_L_law_1265 x1 x2 x3 x4 rec_23 hrec_23)
                  · refine hf_iconst (pc := 500) dL_law_500 ?_
                    exact hf_Jret (pc := 501) (r := 0) ⟨dL_law_501, Or.inl rfl⟩ (fun _ => rfl)
                · refine hf_Jit (fun hc7 => ?_) (fun hc7 => ?_)
                  · refine hf_tsw (pc := 40) 502 462 hr dL_law_40 (by omega) (by omega) (by rw [hc7]; rfl) rfl ?_
                    refine hf_ald_n (pc := 502) 1 rfl rfl dL_law_502 ?_
                    refine hf_ald_n (pc := 503) 0 rfl rfl dL_law_503 ?_
                    refine hf_ild (pc := 504) 4 rfl dL_law_504 ?_
                    refine hf_iconst (pc := 506) dL_law_506 ?_
                    refine hf_iadd (pc := 507) dL_law_507 ?_
                    refine hf_sld (pc := 508) dL_law_508 (fun v508 => ?_)
                    refine hf_cV (pc := 509) (N := M_X11_plan) (ts := [0]) (vs := [v508]) (st := []) (fun r => [(0, r)]) (c_X11_plan x1 v508) cal_X11_plan ml_L_60 ⟨hf_le rfl, hf_le rfl⟩ (hf_le rfl) ⟨rfl, rfl⟩ rfl dL_law_509 (fun _ => rfl) (fun v509 => ?_)
                    refine hf_ald_n (pc := 512) 2 rfl rfl dL_law_512 ?_
                    refine hf_ald_n (pc := 513) 0 rfl rfl dL_law_513 ?_
                    refine hf_ild (pc := 514) 4 rfl dL_law_514 ?_
                    refine hf_iconst (pc := 516) dL_law_516 ?_
                    refine hf_iadd (pc := 517) dL_law_517 ?_
                    refine hf_sld (pc := 518) dL_law_518 (fun v518 => ?_)
                    refine hf_cV (pc := 519) (N := M_X12_plan) (ts := [0]) (vs := [v518]) (st := [(0, v509)]) (fun r => [(0, r), (0, v509)]) (c_X12_plan x2 v518) cal_X12_plan ml_L_63 ⟨hf_le rfl, hf_le rfl⟩ (hf_le rfl) ⟨rfl, rfl⟩ rfl dL_law_519 (fun _ => rfl) (fun v519 => ?_)
                    refine hf_icmp_eq (pc := 522) 1265 dL_law_522 rfl ?_ ?_
                    · exact hf_sub [0, 1, 2, 3, 4] rfl (j_L_law_1265 x1 x2 x3 x4 rec_23 hrec_23)
                    · refine hf_iconst (pc := 525) dL_law_525 ?_
                      exact hf_Jret (pc := 526) (r := 0) ⟨dL_law_526, Or.inl rfl⟩ (fun _ => rfl)
                  · refine hf_Jit (fun hc8 => ?_) (fun hc8 => ?_)
                    · refine hf_tsw (pc := 40) 527 487 hr dL_law_40 (by omega) (by omega) (by rw [hc8]; rfl) rfl ?_
                      refine hf_ald_n (pc := 527) 1 rfl rfl dL_law_527 ?_
                      refine hf_ald_n (pc := 528) 0 rfl rfl dL_law_528 ?_
                      refine hf_ild (pc := 529) 4 rfl dL_law_529 ?_
                      refine hf_iconst (pc := 531) dL_law_531 ?_
                      refine hf_iadd (pc := 532) dL_law_532 ?_
                      refine hf_sld (pc := 533) dL_law_533 (fun v533 => ?_)
                      refine hf_cV (pc := 534) (N := M_X11_fault) (ts := [0]) (vs := [v533]) (st := []) (fun r => [(0, r)]) (c_X11_fault x1 v533) cal_X11_fault ml_L_64 ⟨hf_le rfl, hf_le rfl⟩ (hf_le rfl) ⟨rfl, rfl⟩ rfl dL_law_534 (fun _ => rfl) (fun v534 => ?_)
                      refine hf_ald_n (pc := 537) 2 rfl rfl dL_law_537 ?_
                      refine hf_ald_n (pc := 538) 0 rfl rfl dL_law_538 ?_
                      refine hf_ild (pc := 539) 4 rfl dL_law_539 ?_
                      refine hf_iconst (pc := 541) dL_law_541 ?_
                      refine hf_iadd (pc := 542) dL_law_542 ?_
                      refine hf_sld (pc := 543) dL_law_543 (fun v543 => ?_)
                      refine hf_cV (pc := 544) (N := M_X12_fault) (ts := [0]) (vs := [v543]) (st := [(0, v534)]) (fun r => [(0, r), (0, v534)]) (c_X12_fault x2 v543) cal_X12_fault ml_L_67 ⟨hf_le rfl, hf_le rfl⟩ (hf_le rfl) ⟨rfl, rfl⟩ rfl dL_law_544 (fun _ => rfl) (fun v544 => ?_)
                      refine hf_icmp_eq (pc := 547) 1265 dL_law_547 rfl ?_ ?_
                      · exact hf_sub [0, 1, 2, 3, 4] rfl (j_L_law_1265 x1 x2 x3 x4 rec_23 hrec_23)
                      · refine hf_iconst (pc := 550) dL_law_550 ?_
                        exact hf_Jret (pc := 551) (r := 0) ⟨dL_law_551, Or.inl rfl⟩ (fun _ => rfl)
                    · refine hf_Jit (fun hc9 => ?_) (fun hc9 => ?_)
                      · refine hf_tsw (pc := 40) 552 512 hr dL_law_40 (by omega) (by omega) (by rw [hc9]; rfl) rfl ?_
                        refine hf_ald_n (pc := 552) 1 rfl rfl dL_law_552 ?_
                        refine hf_ald_n (pc := 553) 0 rfl rfl dL_law_553 ?_
                        refine hf_ild (pc := 554) 4 rfl dL_law_554 ?_
                        refine hf_iconst (pc := 556) dL_law_556 ?_
                        refine hf_iadd (pc := 557) dL_law_557 ?_
                        refine hf_sld (pc := 558) dL_law_558 (fun v558 => ?_)
                        refine hf_ald_n (pc := 559) 0 rfl rfl dL_law_559 ?_
                        refine hf_ild (pc := 560) 4 rfl dL_law_560 ?_
                        refine hf_iconst (pc := 562) dL_law_562 ?_
                        refine hf_iadd (pc := 563) dL_law_563 ?_
                        refine hf_sld (pc := 564) dL_law_564 (fun v564 => ?_)
                        refine hf_cV (pc := 565) (N := M_X11_tried) (ts := [0, 0]) (vs := [v558, v564]) (st := []) (fun r => [(1, r)]) (c_X11_tried x1 v558 v564) cal_X11_tried ml_L_68 ⟨hf_le rfl, hf_le rfl⟩ (hf_le rfl) ⟨rfl, rfl⟩ rfl dL_law_565 (fun _ => rfl) (fun v565 => ?_)
                        refine hf_ald_n (pc := 568) 2 rfl rfl dL_law_568 ?_
                        refine hf_ald_n (pc := 569) 0 rfl rfl dL_law_569 ?_
                        refine hf_ild (pc := 570) 4 rfl dL_law_570 ?_
                        refine hf_iconst (pc := 572) dL_law_572 ?_
                        refine hf_iadd (pc := 573) dL_law_573 ?_
                        refine hf_sld (pc := 574) dL_law_574 (fun v574 => ?_)
                        refine hf_ald_n (pc := 575) 0 rfl rfl dL_law_575 ?_
                        refine hf_ild (pc := 576) 4 rfl dL_law_576 ?_
                        refine hf_iconst (pc := 578) dL_law_578 ?_
                        refine hf_iadd (pc := 579) dL_law_579 ?_
                        refine hf_sld (pc := 580) dL_law_580 (fun v580 => ?_)
                        refine hf_cV (pc := 581) (N := M_X12_tried) (ts := [0, 0]) (vs := [v574, v580]) (st := [(1, v565)]) (fun r => [(1, r), (1, v565)]) (c_X12_tried x2 v574 v580) cal_X12_tried ml_L_72 ⟨hf_le rfl, hf_le rfl⟩ (hf_le rfl) ⟨rfl, rfl⟩ rfl dL_law_581 (fun _ => rfl) (fun v581 => ?_)
                        refine hf_lcm_eq (pc := 584) 1265 dL_law_584 dL_law_585 rfl ?_ ?_
                        · exact hf_sub [0, 1, 2, 3, 4] rfl (j_L_law_1265 x1 x2 x3 x4 rec_23 hrec_23)
                        · refine hf_iconst (pc := 588) dL_law_588 ?_
                          exact hf_Jret (pc := 589) (r := 0) ⟨dL_law_589, Or.inl rfl⟩ (fun _ => rfl)
                      · refine hf_Jit (fun hc10 => ?_) (fun hc10 => ?_)
                        · refine hf_tsw (pc := 40) 590 550 hr dL_law_40 (by omega) (by omega) (by rw [hc10]; rfl) rfl ?_
                          refine hf_ald_n (pc := 590) 1 rfl rfl dL_law_590 ?_
                          refine hf_ald_n (pc := 591) 0 rfl rfl dL_law_591 ?_
                          refine hf_ild (pc := 592) 4 rfl dL_law_592 ?_
                          refine hf_iconst (pc := 594) dL_law_594 ?_
                          refine hf_iadd (pc := 595) dL_law_595 ?_
                          refine hf_sld (pc := 596) dL_law_596 (fun v596 => ?_)
                          refine hf_ald_n (pc := 597) 0 rfl rfl dL_law_597 ?_
                          refine hf_ild (pc := 598) 4 rfl dL_law_598 ?_
                          refine hf_iconst (pc := 600) dL_law_600 ?_
                          refine hf_iadd (pc := 601) dL_law_601 ?_
                          refine hf_sld (pc := 602) dL_law_602 (fun v602 => ?_)
                          refine hf_ald_n (pc := 603) 0 rfl rfl dL_law_603 ?_
                          refine hf_ild (pc := 604) 4 rfl dL_law_604 ?_
                          refine hf_iconst (pc := 606) dL_law_606 ?_
                          refine hf_iadd (pc := 607) dL_law_607 ?_
                          refine hf_sld (pc := 608) dL_law_608 (fun v608 => ?_)
                          refine hf_cV (pc := 609) (N := M_X11_fall) (ts := [0, 0, 0]) (vs := [v596, v602, v608]) (st := []) (fun r => [(0, r)]) (c_X11_fall x1 v596 v602 v608) cal_X11_fall ml_L_73 ⟨hf_le rfl, hf_le rfl⟩ (hf_le rfl) ⟨rfl, rfl⟩ rfl dL_law_609 (fun _ => rfl) (fun v609 => ?_)
                          refine hf_ald_n (pc := 612) 2 rfl rfl dL_law_612 ?_
                          refine hf_ald_n (pc := 613) 0 rfl rfl dL_law_613 ?_
                          refine hf_ild (pc := 614) 4 rfl dL_law_614 ?_
                          refine hf_iconst (pc := 616) dL_law_616 ?_
                          refine hf_iadd (pc := 617) dL_law_617 ?_
                          refine hf_sld (pc := 618) dL_law_618 (fun v618 => ?_)
                          refine hf_ald_n (pc := 619) 0 rfl rfl dL_law_619 ?_
                          refine hf_ild (pc := 620) 4 rfl dL_law_620 ?_
                          refine hf_iconst (pc := 622) dL_law_622 ?_
                          refine hf_iadd (pc := 623) dL_law_623 ?_
                          refine hf_sld (pc := 624) dL_law_624 (fun v624 => ?_)
                          refine hf_ald_n (pc := 625) 0 rfl rfl dL_law_625 ?_
                          refine hf_ild (pc := 626) 4 rfl dL_law_626 ?_
                          refine hf_iconst (pc := 628) dL_law_628 ?_
                          refine hf_iadd (pc := 629) dL_law_629 ?_
                          refine hf_sld (pc := 630) dL_law_630 (fun v630 => ?_)
                          refine hf_cV (pc := 631) (N := M_X12_fall) (ts := [0, 0, 0]) (vs := [v618, v624, v630]) (st := [(0, v609)]) (fun r => [(0, r), (0, v609)]) (c_X12_fall x2 v618 v624 v630) cal_X12_fall ml_L_77 ⟨hf_le rfl, hf_le rfl⟩ (hf_le rfl) ⟨rfl, rfl⟩ rfl dL_law_631 (fun _ => rfl) (fun v631 => ?_)
                          refine hf_icmp_eq (pc := 634) 1265 dL_law_634 rfl ?_ ?_
                          · exact hf_sub [0, 1, 2, 3, 4] rfl (j_L_law_1265 x1 x2 x3 x4 rec_23 hrec_23)
                          · refine hf_iconst (pc := 637) dL_law_637 ?_
                            exact hf_Jret (pc := 638) (r := 0) ⟨dL_law_638, Or.inl rfl⟩ (fun _ => rfl)
                        · refine hf_Jit (fun hc11 => ?_) (fun hc11 => ?_)
                          · refine hf_tsw (pc := 40) 639 599 hr dL_law_40 (by omega) (by omega) (by rw [hc11]; rfl) rfl ?_
                            refine hf_ald_n (pc := 639) 1 rfl rfl dL_law_639 ?_
                            refine hf_ald_n (pc := 640) 0 rfl rfl dL_law_640 ?_
                            refine hf_ild (pc := 641) 4 rfl dL_law_641 ?_
                            refine hf_iconst (pc := 643) dL_law_643 ?_
                            refine hf_iadd (pc := 644) dL_law_644 ?_
                            refine hf_sld (pc := 645) dL_law_645 (fun v645 => ?_)
                            refine hf_cV (pc := 646) (N := M_X11_judge) (ts := [0]) (vs := [v645]) (st := []) (fun r => [(1, r)]) (c_X11_judge x1 v645) cal_X11_judge ml_L_78 ⟨hf_le rfl, hf_le rfl⟩ (hf_le rfl) ⟨rfl, rfl⟩ rfl dL_law_646 (fun _ => rfl) (fun v646 => ?_)
                            refine hf_ald_n (pc := 649) 2 rfl rfl dL_law_649 ?_
                            refine hf_ald_n (pc := 650) 0 rfl rfl dL_law_650 ?_
                            refine hf_ild (pc := 651) 4 rfl dL_law_651 ?_
                            refine hf_iconst (pc := 653) dL_law_653 ?_
                            refine hf_iadd (pc := 654) dL_law_654 ?_
                            refine hf_sld (pc := 655) dL_law_655 (fun v655 => ?_)
                            refine hf_cV (pc := 656) (N := M_X12_judge) (ts := [0]) (vs := [v655]) (st := [(1, v646)]) (fun r => [(1, r), (1, v646)]) (c_X12_judge x2 v655) cal_X12_judge ml_L_82 ⟨hf_le rfl, hf_le rfl⟩ (hf_le rfl) ⟨rfl, rfl⟩ rfl dL_law_656 (fun _ => rfl) (fun v656 => ?_)
                            refine hf_lcm_eq (pc := 659) 1265 dL_law_659 dL_law_660 rfl ?_ ?_
                            · exact hf_sub [0, 1, 2, 3, 4] rfl (j_L_law_1265 x1 x2 x3 x4 rec_23 hrec_23)
                            · refine hf_iconst (pc := 663) dL_law_663 ?_
                              exact hf_Jret (pc := 664) (r := 0) ⟨dL_law_664, Or.inl rfl⟩ (fun _ => rfl)
                          · refine hf_Jit (fun hc12 => ?_) (fun hc12 => ?_)
                            · refine hf_tsw (pc := 40) 665 625 hr dL_law_40 (by omega) (by omega) (by rw [hc12]; rfl) rfl ?_
                              refine hf_ald_n (pc := 665) 1 rfl rfl dL_law_665 ?_
                              refine hf_ald_n (pc := 666) 0 rfl rfl dL_law_666 ?_
                              refine hf_ild (pc := 667) 4 rfl dL_law_667 ?_
                              refine hf_iconst (pc := 669) dL_law_669 ?_
                              refine hf_iadd (pc := 670) dL_law_670 ?_
                              refine hf_sld (pc := 671) dL_law_671 (fun v671 => ?_)
                              refine hf_cV (pc := 672) (N := M_X11_best) (ts := [0]) (vs := [v671]) (st := []) (fun r => [(1, r)]) (c_X11_best x1 v671) cal_X11_best ml_L_83 ⟨hf_le rfl, hf_le rfl⟩ (hf_le rfl) ⟨rfl, rfl⟩ rfl dL_law_672 (fun _ => rfl) (fun v672 => ?_)
                              refine hf_ald_n (pc := 675) 2 rfl rfl dL_law_675 ?_
                              refine hf_ald_n (pc := 676) 0 rfl rfl dL_law_676 ?_
                              refine hf_ild (pc := 677) 4 rfl dL_law_677 ?_
                              refine hf_iconst (pc := 679) dL_law_679 ?_
                              refine hf_iadd (pc := 680) dL_law_680 ?_
                              refine hf_sld (pc := 681) dL_law_681 (fun v681 => ?_)
                              refine hf_cV (pc := 682) (N := M_X12_best) (ts := [0]) (vs := [v681]) (st := [(1, v672)]) (fun r => [(1, r), (1, v672)]) (c_X12_best x2 v681) cal_X12_best ml_L_86 ⟨hf_le rfl, hf_le rfl⟩ (hf_le rfl) ⟨rfl, rfl⟩ rfl dL_law_682 (fun _ => rfl) (fun v682 => ?_)
                              refine hf_lcm_eq (pc := 685) 1265 dL_law_685 dL_law_686 rfl ?_ ?_
                              · exact hf_sub [0, 1, 2, 3, 4] rfl (j_L_law_1265 x1 x2 x3 x4 rec_23 hrec_23)
                              · refine hf_iconst (pc := 689) dL_law_689 ?_
                                exact hf_Jret (pc := 690) (r := 0) ⟨dL_law_690, Or.inl rfl⟩ (fun _ => rfl)
                            · refine hf_Jit (fun hc13 => ?_) (fun hc13 => ?_)
                              · refine hf_tsw (pc := 40) 691 651 hr dL_law_40 (by omega) (by omega) (by rw [hc13]; rfl) rfl ?_
                                refine hf_ald_n (pc := 691) 1 rfl rfl dL_law_691 ?_
                                refine hf_ald_n (pc := 692) 0 rfl rfl dL_law_692 ?_
                                refine hf_ild (pc := 693) 4 rfl dL_law_693 ?_
                                refine hf_iconst (pc := 695) dL_law_695 ?_
                                refine hf_iadd (pc := 696) dL_law_696 ?_
                                refine hf_sld (pc := 697) dL_law_697 (fun v697 => ?_)
                                refine hf_ald_n (pc := 698) 0 rfl rfl dL_law_698 ?_
                                refine hf_ild (pc := 699) 4 rfl dL_law_699 ?_
                                refine hf_iconst (pc := 701) dL_law_701 ?_
                                refine hf_iadd (pc := 702) dL_law_702 ?_
                                refine hf_sld (pc := 703) dL_law_703 (fun v703 => ?_)
                                refine hf_ald_n (pc := 704) 0 rfl rfl dL_law_704 ?_
                                refine hf_ild (pc := 705) 4 rfl dL_law_705 ?_
                                refine hf_iconst (pc := 707) dL_law_707 ?_
                                refine hf_iadd (pc := 708) dL_law_708 ?_
                                refine hf_sld (pc := 709) dL_law_709 (fun v709 => ?_)
                                refine hf_ald_n (pc := 710) 0 rfl rfl dL_law_710 ?_
                                refine hf_ild (pc := 711) 4 rfl dL_law_711 ?_
                                refine hf_iconst (pc := 713) dL_law_713 ?_
                                refine hf_iadd (pc := 714) dL_law_714 ?_
                                refine hf_sld (pc := 715) dL_law_715 (fun v715 => ?_)
                                refine hf_ald_n (pc := 716) 0 rfl rfl dL_law_716 ?_
                                refine hf_ild (pc := 717) 4 rfl dL_law_717 ?_
                                refine hf_iconst (pc := 719) dL_law_719 ?_
                                refine hf_iadd (pc := 720) dL_law_720 ?_
                                refine hf_sld (pc := 721) dL_law_721 (fun v721 => ?_)
                                refine hf_cV (pc := 722) (N := M_X11_next) (ts := [0, 0, 0, 0, 0]) (vs := [v697, v703, v709, v715, v721]) (st := []) (fun r => [(1, r)]) (c_X11_next x1 v697 v703 v709 v715 v721) cal_X11_next ml_L_87 ⟨hf_le rfl, hf_le rfl⟩ (hf_le rfl) ⟨rfl, rfl⟩ rfl dL_law_722 (fun _ => rfl) (fun v722 => ?_)
                                refine hf_ald_n (pc := 725) 2 rfl rfl dL_law_725 ?_
                                refine hf_ald_n (pc := 726) 0 rfl rfl dL_law_726 ?_
                                refine hf_ild (pc := 727) 4 rfl dL_law_727 ?_
                                refine hf_iconst (pc := 729) dL_law_729 ?_
                                refine hf_iadd (pc := 730) dL_law_730 ?_
                                refine hf_sld (pc := 731) dL_law_731 (fun v731 => ?_)
                                refine hf_ald_n (pc := 732) 0 rfl rfl dL_law_732 ?_
                                refine hf_ild (pc := 733) 4 rfl dL_law_733 ?_
                                refine hf_iconst (pc := 735) dL_law_735 ?_
                                refine hf_iadd (pc := 736) dL_law_736 ?_
                                refine hf_sld (pc := 737) dL_law_737 (fun v737 => ?_)
                                refine hf_ald_n (pc := 738) 0 rfl rfl dL_law_738 ?_
                                refine hf_ild (pc := 739) 4 rfl dL_law_739 ?_
                                refine hf_iconst (pc := 741) dL_law_741 ?_
                                refine hf_iadd (pc := 742) dL_law_742 ?_
                                refine hf_sld (pc := 743) dL_law_743 (fun v743 => ?_)
                                refine hf_ald_n (pc := 744) 0 rfl rfl dL_law_744 ?_
                                refine hf_ild (pc := 745) 4 rfl dL_law_745 ?_
                                refine hf_iconst (pc := 747) dL_law_747 ?_
                                refine hf_iadd (pc := 748) dL_law_748 ?_
                                refine hf_sld (pc := 749) dL_law_749 (fun v749 => ?_)
                                refine hf_ald_n (pc := 750) 0 rfl rfl dL_law_750 ?_
                                refine hf_ild (pc := 751) 4 rfl dL_law_751 ?_
                                refine hf_iconst (pc := 753) dL_law_753 ?_
                                refine hf_iadd (pc := 754) dL_law_754 ?_
                                refine hf_sld (pc := 755) dL_law_755 (fun v755 => ?_)
                                refine hf_cV (pc := 756) (N := M_X12_next) (ts := [0, 0, 0, 0, 0]) (vs := [v731, v737, v743, v749, v755]) (st := [(1, v722)]) (fun r => [(1, r), (1, v722)]) (c_X12_next x2 v731 v737 v743 v749 v755) cal_X12_next ml_L_91 ⟨hf_le rfl, hf_le rfl⟩ (hf_le rfl) ⟨rfl, rfl⟩ rfl dL_law_756 (fun _ => rfl) (fun v756 => ?_)
                                refine hf_lcm_eq (pc := 759) 1265 dL_law_759 dL_law_760 rfl ?_ ?_
                                · exact hf_sub [0, 1, 2, 3, 4] rfl (j_L_law_1265 x1 x2 x3 x4 rec_23 hrec_23)
                                · refine hf_iconst (pc := 763) dL_law_763 ?_
                                  exact hf_Jret (pc := 764) (r := 0) ⟨dL_law_764, Or.inl rfl⟩ (fun _ => rfl)
                              · refine hf_Jit (fun hc14 => ?_) (fun hc14 => ?_)
                                · refine hf_tsw (pc := 40) 765 725 hr dL_law_40 (by omega) (by omega) (by rw [hc14]; rfl) rfl ?_
                                  refine hf_ald_n (pc := 765) 1 rfl rfl dL_law_765 ?_
                                  refine hf_ald_n (pc := 766) 0 rfl rfl dL_law_766 ?_
                                  refine hf_ild (pc := 767) 4 rfl dL_law_767 ?_
                                  refine hf_iconst (pc := 769) dL_law_769 ?_
                                  refine hf_iadd (pc := 770) dL_law_770 ?_
                                  refine hf_sld (pc := 771) dL_law_771 (fun v771 => ?_)
                                  refine hf_ald_n (pc := 772) 0 rfl rfl dL_law_772 ?_
                                  refine hf_ild (pc := 773) 4 rfl dL_law_773 ?_
                                  refine hf_iconst (pc := 775) dL_law_775 ?_
                                  refine hf_iadd (pc := 776) dL_law_776 ?_
                                  refine hf_sld (pc := 777) dL_law_777 (fun v777 => ?_)
                                  refine hf_cV (pc := 778) (N := M_X11_edge) (ts := [0, 0]) (vs := [v771, v777]) (st := []) (fun r => [(0, r)]) (c_X11_edge x1 v771 v777) cal_X11_edge ml_L_92 ⟨hf_le rfl, hf_le rfl⟩ (hf_le rfl) ⟨rfl, rfl⟩ rfl dL_law_778 (fun _ => rfl) (fun v778 => ?_)
                                  refine hf_ald_n (pc := 781) 2 rfl rfl dL_law_781 ?_
                                  refine hf_ald_n (pc := 782) 0 rfl rfl dL_law_782 ?_
                                  refine hf_ild (pc := 783) 4 rfl dL_law_783 ?_
                                  refine hf_iconst (pc := 785) dL_law_785 ?_
                                  refine hf_iadd (pc := 786) dL_law_786 ?_
                                  refine hf_sld (pc := 787) dL_law_787 (fun v787 => ?_)
                                  refine hf_ald_n (pc := 788) 0 rfl rfl dL_law_788 ?_
                                  refine hf_ild (pc := 789) 4 rfl dL_law_789 ?_
                                  refine hf_iconst (pc := 791) dL_law_791 ?_
                                  refine hf_iadd (pc := 792) dL_law_792 ?_
                                  refine hf_sld (pc := 793) dL_law_793 (fun v793 => ?_)
                                  refine hf_cV (pc := 794) (N := M_X12_edge) (ts := [0, 0]) (vs := [v787, v793]) (st := [(0, v778)]) (fun r => [(0, r), (0, v778)]) (c_X12_edge x2 v787 v793) cal_X12_edge ml_L_95 ⟨hf_le rfl, hf_le rfl⟩ (hf_le rfl) ⟨rfl, rfl⟩ rfl dL_law_794 (fun _ => rfl) (fun v794 => ?_)
                                  refine hf_icmp_eq (pc := 797) 1265 dL_law_797 rfl ?_ ?_
                                  · exact hf_sub [0, 1, 2, 3, 4] rfl (j_L_law_1265 x1 x2 x3 x4 rec_23 hrec_23)
                                  · refine hf_iconst (pc := 800) dL_law_800 ?_
                                    exact hf_Jret (pc := 801) (r := 0) ⟨dL_law_801, Or.inl rfl⟩ (fun _ => rfl)
                                · refine hf_Jit (fun hc15 => ?_) (fun hc15 => ?_)
                                  · refine hf_tsw (pc := 40) 802 762 hr dL_law_40 (by omega) (by omega) (by rw [hc15]; rfl) rfl ?_
                                    refine hf_ald_n (pc := 802) 1 rfl rfl dL_law_802 ?_
                                    refine hf_ald_n (pc := 803) 0 rfl rfl dL_law_803 ?_
                                    refine hf_ild (pc := 804) 4 rfl dL_law_804 ?_
                                    refine hf_iconst (pc := 806) dL_law_806 ?_
                                    refine hf_iadd (pc := 807) dL_law_807 ?_
                                    refine hf_sld (pc := 808) dL_law_808 (fun v808 => ?_)
                                    refine hf_ald_n (pc := 809) 0 rfl rfl dL_law_809 ?_
                                    refine hf_ild (pc := 810) 4 rfl dL_law_810 ?_
                                    refine hf_iconst (pc := 812) dL_law_812 ?_
                                    refine hf_iadd (pc := 813) dL_law_813 ?_
                                    refine hf_sld (pc := 814) dL_law_814 (fun v814 => ?_)
                                    refine hf_cV (pc := 815) (N := M_X11_weak) (ts := [0, 0]) (vs := [v808, v814]) (st := []) (fun r => [(0, r)]) (c_X11_weak x1 v808 v814) cal_X11_weak ml_L_96 ⟨hf_le rfl, hf_le rfl⟩ (hf_le rfl) ⟨rfl, rfl⟩ rfl dL_law_815 (fun _ => rfl) (fun v815 => ?_)
                                    refine hf_ald_n (pc := 818) 2 rfl rfl dL_law_818 ?_
                                    refine hf_ald_n (pc := 819) 0 rfl rfl dL_law_819 ?_
                                    refine hf_ild (pc := 820) 4 rfl dL_law_820 ?_
                                    refine hf_iconst (pc := 822) dL_law_822 ?_
                                    refine hf_iadd (pc := 823) dL_law_823 ?_
                                    refine hf_sld (pc := 824) dL_law_824 (fun v824 => ?_)
                                    refine hf_ald_n (pc := 825) 0 rfl rfl dL_law_825 ?_
                                    refine hf_ild (pc := 826) 4 rfl dL_law_826 ?_
                                    refine hf_iconst (pc := 828) dL_law_828 ?_
                                    refine hf_iadd (pc := 829) dL_law_829 ?_
                                    refine hf_sld (pc := 830) dL_law_830 (fun v830 => ?_)
                                    refine hf_cV (pc := 831) (N := M_X12_weak) (ts := [0, 0]) (vs := [v824, v830]) (st := [(0, v815)]) (fun r => [(0, r), (0, v815)]) (c_X12_weak x2 v824 v830) cal_X12_weak ml_L_99 ⟨hf_le rfl, hf_le rfl⟩ (hf_le rfl) ⟨rfl, rfl⟩ rfl dL_law_831 (fun _ => rfl) (fun v831 => ?_)
                                    refine hf_icmp_eq (pc := 834) 1265 dL_law_834 rfl ?_ ?_
                                    · exact hf_sub [0, 1, 2, 3, 4] rfl (j_L_law_1265 x1 x2 x3 x4 rec_23 hrec_23)
                                    · refine hf_iconst (pc := 837) dL_law_837 ?_
                                      exact hf_Jret (pc := 838) (r := 0) ⟨dL_law_838, Or.inl rfl⟩ (fun _ => rfl)
                                  · refine hf_Jit (fun hc16 => ?_) (fun hc16 => ?_)
                                    · refine hf_tsw (pc := 40) 839 799 hr dL_law_40 (by omega) (by omega) (by rw [hc16]; rfl) rfl ?_
                                      refine hf_ald_n (pc := 839) 1 rfl rfl dL_law_839 ?_
                                      refine hf_ald_n (pc := 840) 0 rfl rfl dL_law_840 ?_
                                      refine hf_ild (pc := 841) 4 rfl dL_law_841 ?_
                                      refine hf_iconst (pc := 843) dL_law_843 ?_
                                      refine hf_iadd (pc := 844) dL_law_844 ?_
                                      refine hf_sld (pc := 845) dL_law_845 (fun v845 => ?_)
                                      refine hf_ald_n (pc := 846) 0 rfl rfl dL_law_846 ?_
                                      refine hf_ild (pc := 847) 4 rfl dL_law_847 ?_
                                      refine hf_iconst (pc := 849) dL_law_849 ?_
                                      refine hf_iadd (pc := 850) dL_law_850 ?_
                                      refine hf_sld (pc := 851) dL_law_851 (fun v851 => ?_)
                                      refine hf_cV (pc := 852) (N := M_X11_rounds) (ts := [0, 0]) (vs := [v845, v851]) (st := []) (fun r => [(0, r)]) (c_X11_rounds x1 v845 v851) cal_X11_rounds ml_L_100 ⟨hf_le rfl, hf_le rfl⟩ (hf_le rfl) ⟨rfl, rfl⟩ rfl dL_law_852 (fun _ => rfl) (fun v852 => ?_)
                                      refine hf_ald_n (pc := 855) 2 rfl rfl dL_law_855 ?_
                                      refine hf_ald_n (pc := 856) 0 rfl rfl dL_law_856 ?_
                                      refine hf_ild (pc := 857) 4 rfl dL_law_857 ?_
                                      refine hf_iconst (pc := 859) dL_law_859 ?_
                                      refine hf_iadd (pc := 860) dL_law_860 ?_
                                      refine hf_sld (pc := 861) dL_law_861 (fun v861 => ?_)
                                      refine hf_ald_n (pc := 862) 0 rfl rfl dL_law_862 ?_
                                      refine hf_ild (pc := 863) 4 rfl dL_law_863 ?_
                                      refine hf_iconst (pc := 865) dL_law_865 ?_
                                      refine hf_iadd (pc := 866) dL_law_866 ?_
                                      refine hf_sld (pc := 867) dL_law_867 (fun v867 => ?_)
                                      refine hf_cV (pc := 868) (N := M_X12_rounds) (ts := [0, 0]) (vs := [v861, v867]) (st := [(0, v852)]) (fun r => [(0, r), (0, v852)]) (c_X12_rounds x2 v861 v867) cal_X12_rounds ml_L_103 ⟨hf_le rfl, hf_le rfl⟩ (hf_le rfl) ⟨rfl, rfl⟩ rfl dL_law_868 (fun _ => rfl) (fun v868 => ?_)
                                      refine hf_icmp_eq (pc := 871) 1265 dL_law_871 rfl ?_ ?_
                                      · exact hf_sub [0, 1, 2, 3, 4] rfl (j_L_law_1265 x1 x2 x3 x4 rec_23 hrec_23)
                                      · refine hf_iconst (pc := 874) dL_law_874 ?_
                                        exact hf_Jret (pc := 875) (r := 0) ⟨dL_law_875, Or.inl rfl⟩ (fun _ => rfl)
                                    · refine hf_Jit (fun hc17 => ?_) (fun hc17 => ?_)
                                      · refine hf_tsw (pc := 40) 876 836 hr dL_law_40 (by omega) (by omega) (by rw [hc17]; rfl) rfl ?_
                                        refine hf_ald_n (pc := 876) 1 rfl rfl dL_law_876 ?_
                                        refine hf_ald_n (pc := 877) 0 rfl rfl dL_law_877 ?_
                                        refine hf_ild (pc := 878) 4 rfl dL_law_878 ?_
                                        refine hf_iconst (pc := 880) dL_law_880 ?_
                                        refine hf_iadd (pc := 881) dL_law_881 ?_
                                        refine hf_sld (pc := 882) dL_law_882 (fun v882 => ?_)
                                        refine hf_ald_n (pc := 883) 0 rfl rfl dL_law_883 ?_
                                        refine hf_ild (pc := 884) 4 rfl dL_law_884 ?_
                                        refine hf_iconst (pc := 886) dL_law_886 ?_
                                        refine hf_iadd (pc := 887) dL_law_887 ?_
                                        refine hf_sld (pc := 888) dL_law_888 (fun v888 => ?_)
                                        refine hf_cV (pc := 889) (N := M_X11_lies) (ts := [0, 0]) (vs := [v882, v888]) (st := []) (fun r => [(0, r)]) (c_X11_lies x1 v882 v888) cal_X11_lies ml_L_104 ⟨hf_le rfl, hf_le rfl⟩ (hf_le rfl) ⟨rfl, rfl⟩ rfl dL_law_889 (fun _ => rfl) (fun v889 => ?_)
                                        refine hf_ald_n (pc := 892) 2 rfl rfl dL_law_892 ?_
                                        refine hf_ald_n (pc := 893) 0 rfl rfl dL_law_893 ?_
                                        refine hf_ild (pc := 894) 4 rfl dL_law_894 ?_
                                        refine hf_iconst (pc := 896) dL_law_896 ?_
                                        refine hf_iadd (pc := 897) dL_law_897 ?_
                                        refine hf_sld (pc := 898) dL_law_898 (fun v898 => ?_)
                                        refine hf_ald_n (pc := 899) 0 rfl rfl dL_law_899 ?_
                                        refine hf_ild (pc := 900) 4 rfl dL_law_900 ?_
                                        refine hf_iconst (pc := 902) dL_law_902 ?_
                                        refine hf_iadd (pc := 903) dL_law_903 ?_
                                        refine hf_sld (pc := 904) dL_law_904 (fun v904 => ?_)
                                        refine hf_cV (pc := 905) (N := M_X12_lies) (ts := [0, 0]) (vs := [v898, v904]) (st := [(0, v889)]) (fun r => [(0, r), (0, v889)]) (c_X12_lies x2 v898 v904) cal_X12_lies ml_L_107 ⟨hf_le rfl, hf_le rfl⟩ (hf_le rfl) ⟨rfl, rfl⟩ rfl dL_law_905 (fun _ => rfl) (fun v905 => ?_)
                                        refine hf_icmp_eq (pc := 908) 1265 dL_law_908 rfl ?_ ?_
                                        · exact hf_sub [0, 1, 2, 3, 4] rfl (j_L_law_1265 x1 x2 x3 x4 rec_23 hrec_23)
                                        · refine hf_iconst (pc := 911) dL_law_911 ?_
                                          exact hf_Jret (pc := 912) (r := 0) ⟨dL_law_912, Or.inl rfl⟩ (fun _ => rfl)
                                      · refine hf_Jit (fun hc18 => ?_) (fun hc18 => ?_)
                                        · refine hf_tsw (pc := 40) 913 873 hr dL_law_40 (by omega) (by omega) (by rw [hc18]; rfl) rfl ?_
                                          refine hf_ald_n (pc := 913) 1 rfl rfl dL_law_913 ?_
                                          refine hf_ald_n (pc := 914) 0 rfl rfl dL_law_914 ?_
                                          refine hf_ild (pc := 915) 4 rfl dL_law_915 ?_
                                          refine hf_iconst (pc := 917) dL_law_917 ?_
                                          refine hf_iadd (pc := 918) dL_law_918 ?_
                                          refine hf_sld (pc := 919) dL_law_919 (fun v919 => ?_)
                                          refine hf_ald_n (pc := 920) 0 rfl rfl dL_law_920 ?_
                                          refine hf_ild (pc := 921) 4 rfl dL_law_921 ?_
                                          refine hf_iconst (pc := 923) dL_law_923 ?_
                                          refine hf_iadd (pc := 924) dL_law_924 ?_
                                          refine hf_sld (pc := 925) dL_law_925 (fun v925 => ?_)
                                          refine hf_ald_n (pc := 926) 0 rfl rfl dL_law_926 ?_
                                          refine hf_ild (pc := 927) 4 rfl dL_law_927 ?_
                                          refine hf_iconst (pc := 929) dL_law_929 ?_
                                          refine hf_iadd (pc := 930) dL_law_930 ?_
                                          refine hf_sld (pc := 931) dL_law_931 (fun v931 => ?_)
                                          refine hf_ald_n (pc := 932) 0 rfl rfl dL_law_932 ?_
                                          refine hf_ild (pc := 933) 4 rfl dL_law_933 ?_
                                          refine hf_iconst (pc := 935) dL_law_935 ?_
                                          refine hf_iadd (pc := 936) dL_law_936 ?_
                                          refine hf_sld (pc := 937) dL_law_937 (fun v937 => ?_)
                                          refine hf_Jdiz (pc := 938) (pcM := 946) (t := 0) (stM := [(0, v931), (0, v925), (0, v919), (2, x1)]) (fun w946 => ?_) (fun a1 a2 => ?_)
                                          · refine hf_cV (pc := 946) (N := M_X11_note) (ts := [0, 0, 0, 0]) (vs := [v919, v925, v931, w946]) (st := []) (fun r => [(0, r)]) (c_X11_note x1 v919 v925 v931 w946) cal_X11_note ml_L_108 ⟨hf_le rfl, hf_le rfl⟩ (hf_le rfl) ⟨rfl, rfl⟩ rfl dL_law_946 (fun _ => rfl) (fun v946 => ?_)
                                            refine hf_ald_n (pc := 949) 2 rfl rfl dL_law_949 ?_
                                            refine hf_ald_n (pc := 950) 0 rfl rfl dL_law_950 ?_
                                            refine hf_ild (pc := 951) 4 rfl dL_law_951 ?_
                                            refine hf_iconst (pc := 953) dL_law_953 ?_
                                            refine hf_iadd (pc := 954) dL_law_954 ?_
                                            refine hf_sld (pc := 955) dL_law_955 (fun v955 => ?_)
                                            refine hf_ald_n (pc := 956) 0 rfl rfl dL_law_956 ?_
                                            refine hf_ild (pc := 957) 4 rfl dL_law_957 ?_
                                            refine hf_iconst (pc := 959) dL_law_959 ?_
                                            refine hf_iadd (pc := 960) dL_law_960 ?_
                                            refine hf_sld (pc := 961) dL_law_961 (fun v961 => ?_)
                                            refine hf_ald_n (pc := 962) 0 rfl rfl dL_law_962 ?_
                                            refine hf_ild (pc := 963) 4 rfl dL_law_963 ?_
                                            refine hf_iconst (pc := 965) dL_law_965 ?_
                                            refine hf_iadd (pc := 966) dL_law_966 ?_
                                            refine hf_sld (pc := 967) dL_law_967 (fun v967 => ?_)
                                            refine hf_ald_n (pc := 968) 0 rfl rfl dL_law_968 ?_
                                            refine hf_ild (pc := 969) 4 rfl dL_law_969 ?_
                                            refine hf_iconst (pc := 971) dL_law_971 ?_
                                            refine hf_iadd (pc := 972) dL_law_972 ?_
                                            refine hf_sld (pc := 973) dL_law_973 (fun v973 => ?_)
                                            refine hf_Jdiz (pc := 974) (pcM := 982) (t := 0) (stM := [(0, v967), (0, v961), (0, v955), (2, x2), (0, v946)]) (fun w982 => ?_) (fun a1 a2 => ?_)
                                            · refine hf_cV (pc := 982) (N := M_X12_note) (ts := [0, 0, 0, 0]) (vs := [v955, v961, v967, w982]) (st := [(0, v946)]) (fun r => [(0, r), (0, v946)]) (c_X12_note x2 v955 v961 v967 w982) cal_X12_note ml_L_112 ⟨hf_le rfl, hf_le rfl⟩ (hf_le rfl) ⟨rfl, rfl⟩ rfl dL_law_982 (fun _ => rfl) (fun v982 => ?_)
                                              refine hf_icmp_eq (pc := 985) 1265 dL_law_985 rfl ?_ ?_
                                              · exact hf_sub [0, 1, 2, 3, 4] rfl (j_L_law_1265 x1 x2 x3 x4 rec_23 hrec_23)
                                              · refine hf_iconst (pc := 988) dL_law_988 ?_
                                                exact hf_Jret (pc := 989) (r := 0) ⟨dL_law_989, Or.inl rfl⟩ (fun _ => rfl)
                                            · refine hf_if_eq (pc := 974) 981 dL_law_974 rfl ?_ ?_
                                              · refine hf_iconst (pc := 981) dL_law_981 ?_
                                                exact a1
                                              · refine hf_iconst (pc := 977) dL_law_977 ?_
                                                refine hf_goto (pc := 978) 982 dL_law_978 rfl ?_
                                                exact a2
                                          · refine hf_if_eq (pc := 938) 945 dL_law_938 rfl ?_ ?_
                                            · refine hf_iconst (pc := 945) dL_law_945 ?_
                                              exact a1
                                            · refine hf_iconst (pc := 941) dL_law_941 ?_
                                              refine hf_goto (pc := 942) 946 dL_law_942 rfl ?_
                                              exact a2
                                        · refine hf_Jit (fun hc19 => ?_) (fun hc19 => ?_)
                                          · refine hf_tsw (pc := 40) 990 950 hr dL_law_40 (by omega) (by omega) (by rw [hc19]; rfl) rfl ?_
                                            refine hf_ald_n (pc := 990) 1 rfl rfl dL_law_990 ?_
                                            refine hf_ald_n (pc := 991) 0 rfl rfl dL_law_991 ?_
                                            refine hf_ild (pc := 992) 4 rfl dL_law_992 ?_
                                            refine hf_iconst (pc := 994) dL_law_994 ?_
                                            refine hf_iadd (pc := 995) dL_law_995 ?_
                                            refine hf_sld (pc := 996) dL_law_996 (fun v996 => ?_)
                                            refine hf_cV (pc := 997) (N := M_X11_strike) (ts := [0]) (vs := [v996]) (st := []) (fun r => [(0, r)]) (c_X11_strike x1 v996) cal_X11_strike ml_L_113 ⟨hf_le rfl, hf_le rfl⟩ (hf_le rfl) ⟨rfl, rfl⟩ rfl dL_law_997 (fun _ => rfl) (fun v997 => ?_)
                                            refine hf_ald_n (pc := 1000) 2 rfl rfl dL_law_1000 ?_
                                            refine hf_ald_n (pc := 1001) 0 rfl rfl dL_law_1001 ?_
                                            refine hf_ild (pc := 1002) 4 rfl dL_law_1002 ?_
                                            refine hf_iconst (pc := 1004) dL_law_1004 ?_
                                            refine hf_iadd (pc := 1005) dL_law_1005 ?_
                                            refine hf_sld (pc := 1006) dL_law_1006 (fun v1006 => ?_)
                                            refine hf_cV (pc := 1007) (N := M_X12_strike) (ts := [0]) (vs := [v1006]) (st := [(0, v997)]) (fun r => [(0, r), (0, v997)]) (c_X12_strike x2 v1006) cal_X12_strike ml_L_116 ⟨hf_le rfl, hf_le rfl⟩ (hf_le rfl) ⟨rfl, rfl⟩ rfl dL_law_1007 (fun _ => rfl) (fun v1007 => ?_)
                                            refine hf_icmp_eq (pc := 1010) 1265 dL_law_1010 rfl ?_ ?_
                                            · exact hf_sub [0, 1, 2, 3, 4] rfl (j_L_law_1265 x1 x2 x3 x4 rec_23 hrec_23)
                                            · refine hf_iconst (pc := 1013) dL_law_1013 ?_
                                              exact hf_Jret (pc := 1014) (r := 0) ⟨dL_law_1014, Or.inl rfl⟩ (fun _ => rfl)
                                          · refine hf_Jit (fun hc20 => ?_) (fun hc20 => ?_)
                                            · refine hf_tsw (pc := 40) 1015 975 hr dL_law_40 (by omega) (by omega) (by rw [hc20]; rfl) rfl ?_
                                              refine hf_ald_n (pc := 1015) 1 rfl rfl dL_law_1015 ?_
                                              refine hf_ald_n (pc := 1016) 0 rfl rfl dL_law_1016 ?_
                                              refine hf_ild (pc := 1017) 4 rfl dL_law_1017 ?_
                                              refine hf_iconst (pc := 1019) dL_law_1019 ?_
                                              refine hf_iadd (pc := 1020) dL_law_1020 ?_
                                              refine hf_sld (pc := 1021) dL_law_1021 (fun v1021 => ?_)
                                              refine hf_cV (pc := 1022) (N := M_X11_fitting) (ts := [0]) (vs := [v1021]) (st := []) (fun r => [(0, r)]) (c_X11_fitting x1 v1021) cal_X11_fitting ml_L_117 ⟨hf_le rfl, hf_le rfl⟩ (hf_le rfl) ⟨rfl, rfl⟩ rfl dL_law_1022 (fun _ => rfl) (fun v1022 => ?_)
                                              refine hf_ald_n (pc := 1025) 2 rfl rfl dL_law_1025 ?_
                                              refine hf_ald_n (pc := 1026) 0 rfl rfl dL_law_1026 ?_
                                              refine hf_ild (pc := 1027) 4 rfl dL_law_1027 ?_
                                              refine hf_iconst (pc := 1029) dL_law_1029 ?_
                                              refine hf_iadd (pc := 1030) dL_law_1030 ?_
                                              refine hf_sld (pc := 1031) dL_law_1031 (fun v1031 => ?_)
                                              refine hf_cV (pc := 1032) (N := M_X12_fitting) (ts := [0]) (vs := [v1031]) (st := [(0, v1022)]) (fun r => [(0, r), (0, v1022)]) (c_X12_fitting x2 v1031) cal_X12_fitting ml_L_120 ⟨hf_le rfl, hf_le rfl⟩ (hf_le rfl) ⟨rfl, rfl⟩ rfl dL_law_1032 (fun _ => rfl) (fun v1032 => ?_)
                                              refine hf_icmp_eq (pc := 1035) 1265 dL_law_1035 rfl ?_ ?_
                                              · exact hf_sub [0, 1, 2, 3, 4] rfl (j_L_law_1265 x1 x2 x3 x4 rec_23 hrec_23)
                                              · refine hf_iconst (pc := 1038) dL_law_1038 ?_
                                                exact hf_Jret (pc := 1039) (r := 0) ⟨dL_law_1039, Or.inl rfl⟩ (fun _ => rfl)
                                            · refine hf_Jit (fun hc21 => ?_) (fun hc21 => ?_)
                                              · refine hf_tsw (pc := 40) 1040 1000 hr dL_law_40 (by omega) (by omega) (by rw [hc21]; rfl) rfl ?_
                                                refine hf_ald_n (pc := 1040) 1 rfl rfl dL_law_1040 ?_
                                                refine hf_ald_n (pc := 1041) 0 rfl rfl dL_law_1041 ?_
                                                refine hf_ild (pc := 1042) 4 rfl dL_law_1042 ?_
                                                refine hf_iconst (pc := 1044) dL_law_1044 ?_
                                                refine hf_iadd (pc := 1045) dL_law_1045 ?_
                                                refine hf_sld (pc := 1046) dL_law_1046 (fun v1046 => ?_)
                                                refine hf_cV (pc := 1047) (N := M_X11_doubt) (ts := [0]) (vs := [v1046]) (st := []) (fun r => [(0, r)]) (c_X11_doubt x1 v1046) cal_X11_doubt ml_L_121 ⟨hf_le rfl, hf_le rfl⟩ (hf_le rfl) ⟨rfl, rfl⟩ rfl dL_law_1047 (fun _ => rfl) (fun v1047 => ?_)
                                                refine hf_ald_n (pc := 1050) 2 rfl rfl dL_law_1050 ?_
                                                refine hf_ald_n (pc := 1051) 0 rfl rfl dL_law_1051 ?_
                                                refine hf_ild (pc := 1052) 4 rfl dL_law_1052 ?_
                                                refine hf_iconst (pc := 1054) dL_law_1054 ?_
                                                refine hf_iadd (pc := 1055) dL_law_1055 ?_
                                                refine hf_sld (pc := 1056) dL_law_1056 (fun v1056 => ?_)
                                                refine hf_cV (pc := 1057) (N := M_X12_doubt) (ts := [0]) (vs := [v1056]) (st := [(0, v1047)]) (fun r => [(0, r), (0, v1047)]) (c_X12_doubt x2 v1056) cal_X12_doubt ml_L_124 ⟨hf_le rfl, hf_le rfl⟩ (hf_le rfl) ⟨rfl, rfl⟩ rfl dL_law_1057 (fun _ => rfl) (fun v1057 => ?_)
                                                refine hf_icmp_eq (pc := 1060) 1265 dL_law_1060 rfl ?_ ?_
                                                · exact hf_sub [0, 1, 2, 3, 4] rfl (j_L_law_1265 x1 x2 x3 x4 rec_23 hrec_23)
                                                · refine hf_iconst (pc := 1063) dL_law_1063 ?_
                                                  exact hf_Jret (pc := 1064) (r := 0) ⟨dL_law_1064, Or.inl rfl⟩ (fun _ => rfl)
                                              · refine hf_Jit (fun hc22 => ?_) (fun hc22 => ?_)
                                                · refine hf_tsw (pc := 40) 1065 1025 hr dL_law_40 (by omega) (by omega) (by rw [hc22]; rfl) rfl ?_
                                                  refine hf_ald_n (pc := 1065) 1 rfl rfl dL_law_1065 ?_
                                                  refine hf_ald_n (pc := 1066) 0 rfl rfl dL_law_1066 ?_
                                                  refine hf_ild (pc := 1067) 4 rfl dL_law_1067 ?_
                                                  refine hf_iconst (pc := 1069) dL_law_1069 ?_
                                                  refine hf_iadd (pc := 1070) dL_law_1070 ?_
                                                  refine hf_sld (pc := 1071) dL_law_1071 (fun v1071 => ?_)
                                                  refine hf_cV (pc := 1072) (N := M_X11_least) (ts := [0]) (vs := [v1071]) (st := []) (fun r => [(0, r)]) (c_X11_least x1 v1071) cal_X11_least ml_L_125 ⟨hf_le rfl, hf_le rfl⟩ (hf_le rfl) ⟨rfl, rfl⟩ rfl dL_law_1072 (fun _ => rfl) (fun v1072 => ?_)
                                                  refine hf_ald_n (pc := 1075) 2 rfl rfl dL_law_1075 ?_
                                                  refine hf_ald_n (pc := 1076) 0 rfl rfl dL_law_1076 ?_
                                                  refine hf_ild (pc := 1077) 4 rfl dL_law_1077 ?_
                                                  refine hf_iconst (pc := 1079) dL_law_1079 ?_
                                                  refine hf_iadd (pc := 1080) dL_law_1080 ?_
                                                  refine hf_sld (pc := 1081) dL_law_1081 (fun v1081 => ?_)
                                                  refine hf_cV (pc := 1082) (N := M_X12_least) (ts := [0]) (vs := [v1081]) (st := [(0, v1072)]) (fun r => [(0, r), (0, v1072)]) (c_X12_least x2 v1081) cal_X12_least ml_L_128 ⟨hf_le rfl, hf_le rfl⟩ (hf_le rfl) ⟨rfl, rfl⟩ rfl dL_law_1082 (fun _ => rfl) (fun v1082 => ?_)
                                                  refine hf_icmp_eq (pc := 1085) 1265 dL_law_1085 rfl ?_ ?_
                                                  · exact hf_sub [0, 1, 2, 3, 4] rfl (j_L_law_1265 x1 x2 x3 x4 rec_23 hrec_23)
                                                  · refine hf_iconst (pc := 1088) dL_law_1088 ?_
                                                    exact hf_Jret (pc := 1089) (r := 0) ⟨dL_law_1089, Or.inl rfl⟩ (fun _ => rfl)
                                                · refine hf_Jit (fun hc23 => ?_) (fun hc23 => ?_)
                                                  · refine hf_tsw (pc := 40) 1090 1050 hr dL_law_40 (by omega) (by omega) (by rw [hc23]; rfl) rfl ?_
                                                    refine hf_ald_n (pc := 1090) 1 rfl rfl dL_law_1090 ?_
                                                    refine hf_ald_n (pc := 1091) 0 rfl rfl dL_law_1091 ?_
                                                    refine hf_ild (pc := 1092) 4 rfl dL_law_1092 ?_
                                                    refine hf_iconst (pc := 1094) dL_law_1094 ?_
                                                    refine hf_iadd (pc := 1095) dL_law_1095 ?_
                                                    refine hf_sld (pc := 1096) dL_law_1096 (fun v1096 => ?_)
                                                    refine hf_cV (pc := 1097) (N := M_X11_doubted) (ts := [0]) (vs := [v1096]) (st := []) (fun r => [(0, r)]) (c_X11_doubted x1 v1096) cal_X11_doubted ml_L_129 ⟨hf_le rfl, hf_le rfl⟩ (hf_le rfl) ⟨rfl, rfl⟩ rfl dL_law_1097 (fun _ => rfl) (fun v1097 => ?_)
                                                    refine hf_ald_n (pc := 1100) 2 rfl rfl dL_law_1100 ?_
                                                    refine hf_ald_n (pc := 1101) 0 rfl rfl dL_law_1101 ?_
                                                    refine hf_ild (pc := 1102) 4 rfl dL_law_1102 ?_
                                                    refine hf_iconst (pc := 1104) dL_law_1104 ?_
                                                    refine hf_iadd (pc := 1105) dL_law_1105 ?_
                                                    refine hf_sld (pc := 1106) dL_law_1106 (fun v1106 => ?_)
                                                    refine hf_cV (pc := 1107) (N := M_X12_doubted) (ts := [0]) (vs := [v1106]) (st := [(0, v1097)]) (fun r => [(0, r), (0, v1097)]) (c_X12_doubted x2 v1106) cal_X12_doubted ml_L_132 ⟨hf_le rfl, hf_le rfl⟩ (hf_le rfl) ⟨rfl, rfl⟩ rfl dL_law_1107 (fun _ => rfl) (fun v1107 => ?_)
                                                    refine hf_icmp_eq (pc := 1110) 1265 dL_law_1110 rfl ?_ ?_
                                                    · exact hf_sub [0, 1, 2, 3, 4] rfl (j_L_law_1265 x1 x2 x3 x4 rec_23 hrec_23)
                                                    · refine hf_iconst (pc := 1113) dL_law_1113 ?_
                                                      exact hf_Jret (pc := 1114) (r := 0) ⟨dL_law_1114, Or.inl rfl⟩ (fun _ => rfl)
                                                  · refine hf_Jit (fun hc24 => ?_) (fun hc24 => ?_)
                                                    · refine hf_tsw (pc := 40) 1115 1075 hr dL_law_40 (by omega) (by omega) (by rw [hc24]; rfl) rfl ?_
                                                      refine hf_ald_n (pc := 1115) 1 rfl rfl dL_law_1115 ?_
                                                      refine hf_ald_n (pc := 1116) 0 rfl rfl dL_law_1116 ?_
                                                      refine hf_ild (pc := 1117) 4 rfl dL_law_1117 ?_
                                                      refine hf_iconst (pc := 1119) dL_law_1119 ?_
                                                      refine hf_iadd (pc := 1120) dL_law_1120 ?_
                                                      refine hf_sld (pc := 1121) dL_law_1121 (fun v1121 => ?_)
                                                      refine hf_cV (pc := 1122) (N := M_X11_parts) (ts := [0]) (vs := [v1121]) (st := []) (fun r => [(0, r)]) (c_X11_parts x1 v1121) cal_X11_parts ml_L_133 ⟨hf_le rfl, hf_le rfl⟩ (hf_le rfl) ⟨rfl, rfl⟩ rfl dL_law_1122 (fun _ => rfl) (fun v1122 => ?_)
                                                      refine hf_ald_n (pc := 1125) 2 rfl rfl dL_law_1125 ?_
                                                      refine hf_ald_n (pc := 1126) 0 rfl rfl dL_law_1126 ?_
                                                      refine hf_ild (pc := 1127) 4 rfl dL_law_1127 ?_
                                                      refine hf_iconst (pc := 1129) dL_law_1129 ?_
                                                      refine hf_iadd (pc := 1130) dL_law_1130 ?_
                                                      refine hf_sld (pc := 1131) dL_law_1131 (fun v1131 => ?_)
                                                      refine hf_cV (pc := 1132) (N := M_X12_parts) (ts := [0]) (vs := [v1131]) (st := [(0, v1122)]) (fun r => [(0, r), (0, v1122)]) (c_X12_parts x2 v1131) cal_X12_parts ml_L_136 ⟨hf_le rfl, hf_le rfl⟩ (hf_le rfl) ⟨rfl, rfl⟩ rfl dL_law_1132 (fun _ => rfl) (fun v1132 => ?_)
                                                      refine hf_icmp_eq (pc := 1135) 1265 dL_law_1135 rfl ?_ ?_
                                                      · exact hf_sub [0, 1, 2, 3, 4] rfl (j_L_law_1265 x1 x2 x3 x4 rec_23 hrec_23)
                                                      · refine hf_iconst (pc := 1138) dL_law_1138 ?_
                                                        exact hf_Jret (pc := 1139) (r := 0) ⟨dL_law_1139, Or.inl rfl⟩ (fun _ => rfl)
                                                    · refine hf_Jit (fun hc25 => ?_) (fun hc25 => ?_)
                                                      · refine hf_tsw (pc := 40) 1140 1100 hr dL_law_40 (by omega) (by omega) (by rw [hc25]; rfl) rfl ?_
                                                        refine hf_ald_n (pc := 1140) 1 rfl rfl dL_law_1140 ?_
                                                        refine hf_ald_n (pc := 1141) 0 rfl rfl dL_law_1141 ?_
                                                        refine hf_ild (pc := 1142) 4 rfl dL_law_1142 ?_
                                                        refine hf_iconst (pc := 1144) dL_law_1144 ?_
                                                        refine hf_iadd (pc := 1145) dL_law_1145 ?_
                                                        refine hf_sld (pc := 1146) dL_law_1146 (fun v1146 => ?_)
                                                        refine hf_cV (pc := 1147) (N := M_X11_begin) (ts := [0]) (vs := [v1146]) (st := []) (fun r => [(0, r)]) (c_X11_begin x1 v1146) cal_X11_begin ml_L_137 ⟨hf_le rfl, hf_le rfl⟩ (hf_le rfl) ⟨rfl, rfl⟩ rfl dL_law_1147 (fun _ => rfl) (fun v1147 => ?_)
                                                        refine hf_ald_n (pc := 1150) 2 rfl rfl dL_law_1150 ?_
                                                        refine hf_ald_n (pc := 1151) 0 rfl rfl dL_law_1151 ?_
                                                        refine hf_ild (pc := 1152) 4 rfl dL_law_1152 ?_
                                                        refine hf_iconst (pc := 1154) dL_law_1154 ?_
                                                        refine hf_iadd (pc := 1155) dL_law_1155 ?_
                                                        refine hf_sld (pc := 1156) dL_law_1156 (fun v1156 => ?_)
                                                        refine hf_cV (pc := 1157) (N := M_X12_begin) (ts := [0]) (vs := [v1156]) (st := [(0, v1147)]) (fun r => [(0, r), (0, v1147)]) (c_X12_begin x2 v1156) cal_X12_begin ml_L_140 ⟨hf_le rfl, hf_le rfl⟩ (hf_le rfl) ⟨rfl, rfl⟩ rfl dL_law_1157 (fun _ => rfl) (fun v1157 => ?_)
                                                        refine hf_icmp_eq (pc := 1160) 1265 dL_law_1160 rfl ?_ ?_
                                                        · exact hf_sub [0, 1, 2, 3, 4] rfl (j_L_law_1265 x1 x2 x3 x4 rec_23 hrec_23)
                                                        · refine hf_iconst (pc := 1163) dL_law_1163 ?_
                                                          exact hf_Jret (pc := 1164) (r := 0) ⟨dL_law_1164, Or.inl rfl⟩ (fun _ => rfl)
                                                      · refine hf_Jit (fun hc26 => ?_) (fun hc26 => ?_)
                                                        · refine hf_tsw (pc := 40) 1165 1125 hr dL_law_40 (by omega) (by omega) (by rw [hc26]; rfl) rfl ?_
                                                          refine hf_ald_n (pc := 1165) 1 rfl rfl dL_law_1165 ?_
                                                          refine hf_ald_n (pc := 1166) 0 rfl rfl dL_law_1166 ?_
                                                          refine hf_ild (pc := 1167) 4 rfl dL_law_1167 ?_
                                                          refine hf_iconst (pc := 1169) dL_law_1169 ?_
                                                          refine hf_iadd (pc := 1170) dL_law_1170 ?_
                                                          refine hf_sld (pc := 1171) dL_law_1171 (fun v1171 => ?_)
                                                          refine hf_ald_n (pc := 1172) 0 rfl rfl dL_law_1172 ?_
                                                          refine hf_ild (pc := 1173) 4 rfl dL_law_1173 ?_
                                                          refine hf_iconst (pc := 1175) dL_law_1175 ?_
                                                          refine hf_iadd (pc := 1176) dL_law_1176 ?_
                                                          refine hf_sld (pc := 1177) dL_law_1177 (fun v1177 => ?_)
                                                          refine hf_cV (pc := 1178) (N := M_X11_drop) (ts := [0, 0]) (vs := [v1171, v1177]) (st := []) (fun r => [(0, r)]) (c_X11_drop x1 v1171 v1177) cal_X11_drop ml_L_141 ⟨hf_le rfl, hf_le rfl⟩ (hf_le rfl) ⟨rfl, rfl⟩ rfl dL_law_1178 (fun _ => rfl) (fun v1178 => ?_)
                                                          refine hf_ald_n (pc := 1181) 2 rfl rfl dL_law_1181 ?_
                                                          refine hf_ald_n (pc := 1182) 0 rfl rfl dL_law_1182 ?_
                                                          refine hf_ild (pc := 1183) 4 rfl dL_law_1183 ?_
                                                          refine hf_iconst (pc := 1185) dL_law_1185 ?_
                                                          refine hf_iadd (pc := 1186) dL_law_1186 ?_
                                                          refine hf_sld (pc := 1187) dL_law_1187 (fun v1187 => ?_)
                                                          refine hf_ald_n (pc := 1188) 0 rfl rfl dL_law_1188 ?_
                                                          refine hf_ild (pc := 1189) 4 rfl dL_law_1189 ?_
                                                          refine hf_iconst (pc := 1191) dL_law_1191 ?_
                                                          refine hf_iadd (pc := 1192) dL_law_1192 ?_
                                                          refine hf_sld (pc := 1193) dL_law_1193 (fun v1193 => ?_)
                                                          refine hf_cV (pc := 1194) (N := M_X12_drop) (ts := [0, 0]) (vs := [v1187, v1193]) (st := [(0, v1178)]) (fun r => [(0, r), (0, v1178)]) (c_X12_drop x2 v1187 v1193) cal_X12_drop ml_L_144 ⟨hf_le rfl, hf_le rfl⟩ (hf_le rfl) ⟨rfl, rfl⟩ rfl dL_law_1194 (fun _ => rfl) (fun v1194 => ?_)
                                                          refine hf_icmp_eq (pc := 1197) 1265 dL_law_1197 rfl ?_ ?_
                                                          · exact hf_sub [0, 1, 2, 3, 4] rfl (j_L_law_1265 x1 x2 x3 x4 rec_23 hrec_23)
                                                          · refine hf_iconst (pc := 1200) dL_law_1200 ?_
                                                            exact hf_Jret (pc := 1201) (r := 0) ⟨dL_law_1201, Or.inl rfl⟩ (fun _ => rfl)
                                                        · refine hf_Jit (fun hc27 => ?_) (fun hc27 => ?_)
                                                          · refine hf_tsw (pc := 40) 1202 1162 hr dL_law_40 (by omega) (by omega) (by rw [hc27]; rfl) rfl ?_
                                                            refine hf_ald_n (pc := 1202) 1 rfl rfl dL_law_1202 ?_
                                                            refine hf_cV (pc := 1203) (N := M_X11_back) (ts := []) (vs := []) (st := []) (fun r => [(0, r)]) (c_X11_back x1) cal_X11_back ml_L_145 ⟨hf_le rfl, hf_le rfl⟩ (hf_le rfl) ⟨rfl, rfl⟩ rfl dL_law_1203 (fun _ => rfl) (fun v1203 => ?_)
                                                            refine hf_ald_n (pc := 1206) 2 rfl rfl dL_law_1206 ?_
                                                            refine hf_cV (pc := 1207) (N := M_X12_back) (ts := []) (vs := []) (st := [(0, v1203)]) (fun r => [(0, r), (0, v1203)]) (c_X12_back x2) cal_X12_back ml_L_148 ⟨hf_le rfl, hf_le rfl⟩ (hf_le rfl) ⟨rfl, rfl⟩ rfl dL_law_1207 (fun _ => rfl) (fun v1207 => ?_)
                                                            refine hf_icmp_eq (pc := 1210) 1265 dL_law_1210 rfl ?_ ?_
                                                            · exact hf_sub [0, 1, 2, 3, 4] rfl (j_L_law_1265 x1 x2 x3 x4 rec_23 hrec_23)
                                                            · refine hf_iconst (pc := 1213) dL_law_1213 ?_
                                                              exact hf_Jret (pc := 1214) (r := 0) ⟨dL_law_1214, Or.inl rfl⟩ (fun _ => rfl)
                                                          · refine hf_Jit (fun hc28 => ?_) (fun hc28 => ?_)
                                                            · refine hf_tsw (pc := 40) 1215 1175 hr dL_law_40 (by omega) (by omega) (by rw [hc28]; rfl) rfl ?_
                                                              refine hf_ald_n (pc := 1215) 1 rfl rfl dL_law_1215 ?_
                                                              refine hf_ald_n (pc := 1216) 0 rfl rfl dL_law_1216 ?_
                                                              refine hf_ild (pc := 1217) 4 rfl dL_law_1217 ?_
                                                              refine hf_iconst (pc := 1219) dL_law_1219 ?_
                                                              refine hf_iadd (pc := 1220) dL_law_1220 ?_
                                                              refine hf_sld (pc := 1221) dL_law_1221 (fun v1221 => ?_)
                                                              refine hf_cV (pc := 1222) (N := M_X11_now) (ts := [0]) (vs := [v1221]) (st := []) (fun r => [(0, r)]) (c_X11_now x1 v1221) cal_X11_now ml_L_149 ⟨hf_le rfl, hf_le rfl⟩ (hf_le rfl) ⟨rfl, rfl⟩ rfl dL_law_1222 (fun _ => rfl) (fun v1222 => ?_)
                                                              refine hf_ald_n (pc := 1225) 2 rfl rfl dL_law_1225 ?_
                                                              refine hf_ald_n (pc := 1226) 0 rfl rfl dL_law_1226 ?_
                                                              refine hf_ild (pc := 1227) 4 rfl dL_law_1227 ?_
                                                              refine hf_iconst (pc := 1229) dL_law_1229 ?_
                                                              refine hf_iadd (pc := 1230) dL_law_1230 ?_
                                                              refine hf_sld (pc := 1231) dL_law_1231 (fun v1231 => ?_)
                                                              refine hf_cV (pc := 1232) (N := M_X12_now) (ts := [0]) (vs := [v1231]) (st := [(0, v1222)]) (fun r => [(0, r), (0, v1222)]) (c_X12_now x2 v1231) cal_X12_now ml_L_152 ⟨hf_le rfl, hf_le rfl⟩ (hf_le rfl) ⟨rfl, rfl⟩ rfl dL_law_1232 (fun _ => rfl) (fun v1232 => ?_)
                                                              refine hf_icmp_eq (pc := 1235) 1265 dL_law_1235 rfl ?_ ?_
                                                              · exact hf_sub [0, 1, 2, 3, 4] rfl (j_L_law_1265 x1 x2 x3 x4 rec_23 hrec_23)
                                                              · refine hf_iconst (pc := 1238) dL_law_1238 ?_
                                                                exact hf_Jret (pc := 1239) (r := 0) ⟨dL_law_1239, Or.inl rfl⟩ (fun _ => rfl)
                                                            · refine hf_Jit (fun hc29 => ?_) (fun hc29 => ?_)
                                                              · refine hf_tsw (pc := 40) 1240 1200 hr dL_law_40 (by omega) (by omega) (by rw [hc29]; rfl) rfl ?_
                                                                refine hf_ald_n (pc := 1240) 1 rfl rfl dL_law_1240 ?_
                                                                refine hf_ald_n (pc := 1241) 0 rfl rfl dL_law_1241 ?_
                                                                refine hf_ild (pc := 1242) 4 rfl dL_law_1242 ?_
                                                                refine hf_iconst (pc := 1244) dL_law_1244 ?_
                                                                refine hf_iadd (pc := 1245) dL_law_1245 ?_
                                                                refine hf_sld (pc := 1246) dL_law_1246 (fun v1246 => ?_)
                                                                refine hf_cV (pc := 1247) (N := M_X11_count) (ts := [0]) (vs := [v1246]) (st := []) (fun r => [(0, r)]) (c_X11_count x1 v1246) cal_X11_count ml_L_153 ⟨hf_le rfl, hf_le rfl⟩ (hf_le rfl) ⟨rfl, rfl⟩ rfl dL_law_1247 (fun _ => rfl) (fun v1247 => ?_)
                                                                refine hf_ald_n (pc := 1250) 2 rfl rfl dL_law_1250 ?_
                                                                refine hf_ald_n (pc := 1251) 0 rfl rfl dL_law_1251 ?_
                                                                refine hf_ild (pc := 1252) 4 rfl dL_law_1252 ?_
                                                                refine hf_iconst (pc := 1254) dL_law_1254 ?_
                                                                refine hf_iadd (pc := 1255) dL_law_1255 ?_
                                                                refine hf_sld (pc := 1256) dL_law_1256 (fun v1256 => ?_)
                                                                refine hf_cV (pc := 1257) (N := M_X12_count) (ts := [0]) (vs := [v1256]) (st := [(0, v1247)]) (fun r => [(0, r), (0, v1247)]) (c_X12_count x2 v1256) cal_X12_count ml_L_156 ⟨hf_le rfl, hf_le rfl⟩ (hf_le rfl) ⟨rfl, rfl⟩ rfl dL_law_1257 (fun _ => rfl) (fun v1257 => ?_)
                                                                refine hf_icmp_eq (pc := 1260) 1265 dL_law_1260 rfl ?_ ?_
                                                                · exact hf_sub [0, 1, 2, 3, 4] rfl (j_L_law_1265 x1 x2 x3 x4 rec_23 hrec_23)
                                                                · refine hf_iconst (pc := 1263) dL_law_1263 ?_
                                                                  exact hf_Jret (pc := 1264) (r := 0) ⟨dL_law_1264, Or.inl rfl⟩ (fun _ => rfl)
                                                              · refine hf_tswd (pc := 40) 1265 hr dL_law_40 (by omega) rfl ?_
                                                                exact hf_sub [0, 1, 2, 3, 4] rfl (j_L_law_1265 x1 x2 x3 x4 rec_23 hrec_23)
set_option maxRecDepth 20000 in
theorem j_L_law_23 (x1 x2 x3 x4 : Int) : hf_J M_L_law 23 [(0, 2, (-1)), (1, 2, x1), (2, 2, x2), (3, 2, x3), (4, 0, x4)] [] (f_L_law_23 x1 x2 x3 x4) :=
  hf_Jfx (L := fun s => [(0, 2, (-1)), (1, 2, x1), (2, 2, x2), (3, 2, x3), (4, 0, s)]) (fun rec hrec s => jb_L_law_23 x1 x2 x3 rec hrec s) hf_N x4
set_option maxRecDepth 20000 in
theorem jl_L_law : hf_J M_L_law 0 [(0, 2, (-1))] [] f_L_law := by
  refine hf_new (pc := 0) (tg := 11) (q := (RX11, TX11, 15)) rfl cl_L_8 it_X11 ii_X11 dL_law_0 (fun v0 => ?_)
  refine hf_dup (pc := 3) (by decide) dL_law_3 ?_
  refine hf_cI (pc := 4) (N := M_X11_init) (ts := []) (vs := []) (st := [(2, v0)]) (fun r => [(2, v0)]) (c_X11_init v0) rfl cal_X11_init ml_L_17 ⟨hf_le rfl, hf_le rfl⟩ (hf_le rfl) ⟨rfl, rfl⟩ rfl dL_law_4 (fun _ => rfl) (fun _ => ?_)
  refine hf_ast_n (pc := 7) (lv' := [(1, 2, v0), (0, 2, (-1))]) rfl (by decide) rfl dL_law_7 ?_
  refine hf_new (pc := 8) (tg := 12) (q := (RX12, TX12, 69)) rfl cl_L_18 it_X12 ii_X12 dL_law_8 (fun v8 => ?_)
  refine hf_dup (pc := 11) (by decide) dL_law_11 ?_
  refine hf_cI (pc := 12) (N := M_X12_init) (ts := []) (vs := []) (st := [(2, v8)]) (fun r => [(2, v8)]) (c_X12_init v8) rfl cal_X12_init ml_L_20 ⟨hf_le rfl, hf_le rfl⟩ (hf_le rfl) ⟨rfl, rfl⟩ rfl dL_law_12 (fun _ => rfl) (fun _ => ?_)
  refine hf_ast_n (pc := 15) (lv' := [(2, 2, v8), (1, 2, v0), (0, 2, (-1))]) rfl (by decide) rfl dL_law_15 ?_
  refine hf_iconst (pc := 16) dL_law_16 ?_
  refine hf_newa0 (pc := 17) (tg := 21) (by decide) (by decide) rfl ac_long dL_law_17 (fun v17 => ?_)
  refine hf_ast_n (pc := 19) (lv' := [(3, 2, v17), (2, 2, v8), (1, 2, v0), (0, 2, (-1))]) rfl (by decide) rfl dL_law_19 ?_
  refine hf_iconst (pc := 20) dL_law_20 ?_
  refine hf_ist (pc := 21) (lv' := [(4, 0, 0), (3, 2, v17), (2, 2, v8), (1, 2, v0), (0, 2, (-1))]) (by decide) rfl dL_law_21 ?_
  exact hf_sub [4, 3, 2, 1, 0] rfl (j_L_law_23 v0 v8 v17 0)
