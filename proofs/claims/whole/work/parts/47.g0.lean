/-! THE PROGRAMS AT THEIR OBJECTS: printed by gen2.py -/
def g_X11_putBytes_43 (rec_3 : Int → gM Int) (x1 : Int) (x2 : Int) : gM Int :=
  glet ((x2 + (-8))) (fun x2_43 => rec_3 x2_43)
set_option maxRecDepth 20000 in
theorem r_X11_putBytes_43 (frec_3 : Int → hf_M Int) (rec_3 : Int → gM Int) (hrec_3 : ∀ s : Int, gr (frec_3 s) (rec_3 s)) (x1 : Int) (x2 : Int) : gr (f_X11_putBytes_43 frec_3 1 x1 x2) (g_X11_putBytes_43 rec_3 x1 x2) := by
  unfold f_X11_putBytes_43 g_X11_putBytes_43
  refine gr_let (fun x2_43 => ?_)
  exact hrec_3 _
def gB_X11_putBytes_3 (x1 : Int) (rec_3 : Int → gM Int) (x2 : Int) : gM Int :=
  gcz (x2) ((x2 < 0)) (gret (0)) (gget (-102) (fun v8 => gcb (v8) (400) ((400 ≤ v8)) (g_X11_putBytes_43 rec_3 x1 x2) (gget (-102) (fun v22 => gas 7 400 (v22) ((hf_and (hf_ushr x1 x2) 255)) (gget (-102) (fun v35 => gput (-102) ((v35 + 1)) (g_X11_putBytes_43 rec_3 x1 x2)))))))
set_option maxRecDepth 20000 in
theorem rB_X11_putBytes_3 (x1 : Int) (frec_3 : Int → hf_M Int) (rec_3 : Int → gM Int) (hrec_3 : ∀ s : Int, gr (frec_3 s) (rec_3 s)) (x2 : Int) : gr (B_X11_putBytes_3 1 x1 frec_3 x2) (gB_X11_putBytes_3 x1 rec_3 x2) := by
  unfold B_X11_putBytes_3 gB_X11_putBytes_3
  refine gr_cz ?_ ?_
  · exact gr_ret _
  · refine gr_gf 1 (by decide) (by decide) rfl (by decide) rfl (fun v8 => ?_)
    refine gr_cb ?_ ?_
    · exact r_X11_putBytes_43 frec_3 rec_3 hrec_3 _ _
    · refine gr_gfp 1 7 (by decide) (by decide) rfl rfl (by decide) ?_
      refine gr_gf 1 (by decide) (by decide) rfl (by decide) rfl (fun v22 => ?_)
      refine gr_as 7 400 (by decide) (by decide) rfl (by decide) rfl rfl ?_
      refine gr_gf 1 (by decide) (by decide) rfl (by decide) rfl (fun v35 => ?_)
      refine gr_pf 1 (by decide) (by decide) rfl (by decide) (by decide) rfl rfl ?_
      exact r_X11_putBytes_43 frec_3 rec_3 hrec_3 _ _
def g_X11_putBytes_3 (x1 : Int) (x2 : Int) : gM Int :=
  gfx (fun rec s => gB_X11_putBytes_3 x1 rec s) hf_N x2
set_option maxRecDepth 20000 in
theorem r_X11_putBytes_3 (x1 : Int) (x2 : Int) : gr (f_X11_putBytes_3 1 x1 x2) (g_X11_putBytes_3 x1 x2) := by
  unfold f_X11_putBytes_3 g_X11_putBytes_3
  refine gr_fx (fun frec rec hrec s => ?_) _ _
  exact rB_X11_putBytes_3 _ _ _ hrec _
def g_X11_putBytes (x1 : Int) : gM Int :=
  g_X11_putBytes_3 x1 24
set_option maxRecDepth 20000 in
theorem r_X11_putBytes (x1 : Int) : gr (f_X11_putBytes 1 x1) (g_X11_putBytes x1) := by
  unfold f_X11_putBytes g_X11_putBytes
  exact r_X11_putBytes_3 _ _
def g_X11_feed (x1 : Int) (x2 : Int) (x3 : Int) (x4 : Int) (x5 : Int) : gM Int :=
  gget (-102) (fun v1 => gcb ((v1 + 20)) (400) (((v1 + 20) ≤ 400)) (gbd (g_X11_putBytes x1) (fun _ => gbd (g_X11_putBytes x2) (fun _ => gbd (g_X11_putBytes x3) (fun _ => gbd (g_X11_putBytes x4) (fun _ => gbd (g_X11_putBytes x5) (fun _ => gget (-102) (fun v43 => gret (v43)))))))) (gret ((-1))))
set_option maxRecDepth 20000 in
theorem r_X11_feed (x1 : Int) (x2 : Int) (x3 : Int) (x4 : Int) (x5 : Int) : gr (f_X11_feed 1 x1 x2 x3 x4 x5) (g_X11_feed x1 x2 x3 x4 x5) := by
  unfold f_X11_feed g_X11_feed
  refine gr_gf 1 (by decide) (by decide) rfl (by decide) rfl (fun v1 => ?_)
  refine gr_cb ?_ ?_
  · refine gr_bd (gr_ob 1 (by decide) (by decide) rfl (r_X11_putBytes _)) (fun _ => ?_)
    refine gr_bd (gr_ob 1 (by decide) (by decide) rfl (r_X11_putBytes _)) (fun _ => ?_)
    refine gr_bd (gr_ob 1 (by decide) (by decide) rfl (r_X11_putBytes _)) (fun _ => ?_)
    refine gr_bd (gr_ob 1 (by decide) (by decide) rfl (r_X11_putBytes _)) (fun _ => ?_)
    refine gr_bd (gr_ob 1 (by decide) (by decide) rfl (r_X11_putBytes _)) (fun _ => ?_)
    refine gr_gf 1 (by decide) (by decide) rfl (by decide) rfl (fun v43 => ?_)
    exact gr_ret _
  · exact gr_ret _
def g_X12_feed_76 (rec_23 : Int → gM Int) (x1 : Int) (x2 : Int) (x3 : Int) (x4 : Int) (x5 : Int) (x6 : Int) (s0 : Int) : gM Int :=
  gget (-6901) (fun v83 => grm (x6) (4) (fun v98 => gas 70 400 ((v83 + x6)) ((hf_and (hf_shr s0 (24 - (8 * v98))) 255)) (glet ((x6 + 1)) (fun x6_107 => rec_23 x6_107))))
set_option maxRecDepth 20000 in
theorem r_X12_feed_76 (frec_23 : Int → hf_M Int) (rec_23 : Int → gM Int) (hrec_23 : ∀ s : Int, gr (frec_23 s) (rec_23 s)) (x1 : Int) (x2 : Int) (x3 : Int) (x4 : Int) (x5 : Int) (x6 : Int) (s0 : Int) : gr (f_X12_feed_76 frec_23 69 x1 x2 x3 x4 x5 x6 s0) (g_X12_feed_76 rec_23 x1 x2 x3 x4 x5 x6 s0) := by
  unfold f_X12_feed_76 g_X12_feed_76
  refine gr_gfp 69 70 (by decide) (by decide) rfl rfl (by decide) ?_
  refine gr_gf 69 (by decide) (by decide) rfl (by decide) rfl (fun v83 => ?_)
  refine gr_rm (fun v98 => ?_)
  refine gr_as 70 400 (by decide) (by decide) rfl (by decide) rfl rfl ?_
  refine gr_let (fun x6_107 => ?_)
  exact hrec_23 _
def gB_X12_feed_23 (x1 : Int) (x2 : Int) (x3 : Int) (x4 : Int) (x5 : Int) (rec_23 : Int → gM Int) (x6 : Int) : gM Int :=
  gcb (x6) (20) ((20 ≤ x6)) (gget (-6901) (fun v115 => gput (-6901) ((v115 + 20)) (gget (-6901) (fun v125 => gret (v125))))) (gcb (x6) (4) ((4 ≤ x6)) (gcb (x6) (8) ((8 ≤ x6)) (gcb (x6) (12) ((12 ≤ x6)) (gcb (x6) (16) ((16 ≤ x6)) (g_X12_feed_76 rec_23 x1 x2 x3 x4 x5 x6 x5) (g_X12_feed_76 rec_23 x1 x2 x3 x4 x5 x6 x4)) (g_X12_feed_76 rec_23 x1 x2 x3 x4 x5 x6 x3)) (g_X12_feed_76 rec_23 x1 x2 x3 x4 x5 x6 x2)) (g_X12_feed_76 rec_23 x1 x2 x3 x4 x5 x6 x1))
set_option maxRecDepth 20000 in
theorem rB_X12_feed_23 (x1 : Int) (x2 : Int) (x3 : Int) (x4 : Int) (x5 : Int) (frec_23 : Int → hf_M Int) (rec_23 : Int → gM Int) (hrec_23 : ∀ s : Int, gr (frec_23 s) (rec_23 s)) (x6 : Int) : gr (B_X12_feed_23 69 x1 x2 x3 x4 x5 frec_23 x6) (gB_X12_feed_23 x1 x2 x3 x4 x5 rec_23 x6) := by
  unfold B_X12_feed_23 gB_X12_feed_23
  refine gr_cb ?_ ?_
  · refine gr_gf 69 (by decide) (by decide) rfl (by decide) rfl (fun v115 => ?_)
    refine gr_pf 69 (by decide) (by decide) rfl (by decide) (by decide) rfl rfl ?_
    refine gr_gf 69 (by decide) (by decide) rfl (by decide) rfl (fun v125 => ?_)
    exact gr_ret _
  · refine gr_cb ?_ ?_
    · refine gr_cb ?_ ?_
      · refine gr_cb ?_ ?_
        · refine gr_cb ?_ ?_
          · exact r_X12_feed_76 frec_23 rec_23 hrec_23 _ _ _ _ _ _ _
          · exact r_X12_feed_76 frec_23 rec_23 hrec_23 _ _ _ _ _ _ _
        · exact r_X12_feed_76 frec_23 rec_23 hrec_23 _ _ _ _ _ _ _
      · exact r_X12_feed_76 frec_23 rec_23 hrec_23 _ _ _ _ _ _ _
    · exact r_X12_feed_76 frec_23 rec_23 hrec_23 _ _ _ _ _ _ _
def g_X12_feed_23 (x1 : Int) (x2 : Int) (x3 : Int) (x4 : Int) (x5 : Int) (x6 : Int) : gM Int :=
  gfx (fun rec s => gB_X12_feed_23 x1 x2 x3 x4 x5 rec s) hf_N x6
set_option maxRecDepth 20000 in
theorem r_X12_feed_23 (x1 : Int) (x2 : Int) (x3 : Int) (x4 : Int) (x5 : Int) (x6 : Int) : gr (f_X12_feed_23 69 x1 x2 x3 x4 x5 x6) (g_X12_feed_23 x1 x2 x3 x4 x5 x6) := by
  unfold f_X12_feed_23 g_X12_feed_23
  refine gr_fx (fun frec rec hrec s => ?_) _ _
  exact rB_X12_feed_23 _ _ _ _ _ _ _ hrec _
def g_X12_feed (x1 : Int) (x2 : Int) (x3 : Int) (x4 : Int) (x5 : Int) : gM Int :=
  gput (-6902) (0) (gget (-6901) (fun v6 => gcb ((v6 + 20)) (400) (((v6 + 20) ≤ 400)) (g_X12_feed_23 x1 x2 x3 x4 x5 0) (gret ((-1)))))
set_option maxRecDepth 20000 in
theorem r_X12_feed (x1 : Int) (x2 : Int) (x3 : Int) (x4 : Int) (x5 : Int) : gr (f_X12_feed 69 x1 x2 x3 x4 x5) (g_X12_feed x1 x2 x3 x4 x5) := by
  unfold f_X12_feed g_X12_feed
  refine gr_pf 69 (by decide) (by decide) rfl (by decide) (by decide) rfl rfl ?_
  refine gr_gf 69 (by decide) (by decide) rfl (by decide) rfl (fun v6 => ?_)
  refine gr_cb ?_ ?_
  · exact r_X12_feed_23 _ _ _ _ _ _
  · exact gr_ret _
def g_L_law_1265 (rec_23 : Int → gM Int) (x4 : Int) : gM Int :=
  glet ((x4 + 6)) (fun x4_1265 => rec_23 x4_1265)
set_option maxRecDepth 20000 in
theorem r_L_law_1265 (frec_23 : Int → hf_M Int) (rec_23 : Int → gM Int) (hrec_23 : ∀ s : Int, gr (frec_23 s) (rec_23 s)) (x4 : Int) : gr (f_L_law_1265 frec_23 1 69 104 x4) (g_L_law_1265 rec_23 x4) := by
  unfold f_L_law_1265 g_L_law_1265
  refine gr_let (fun x4_1265 => ?_)
  exact hrec_23 _
def gB_J7_fill_5_o6 (x1 : Int) (x3 : Int) (rec_5 : Int → gM Int) (x2 : Int) : gM Int :=
  gcb (x2) (x3) ((x3 ≤ x2)) (gret (0)) (gas 6 41 (x2) (x1) (glet ((x2 + 1)) (fun x2_14 => rec_5 x2_14)))
set_option maxRecDepth 20000 in
theorem rB_J7_fill_5_o6 (x1 : Int) (x3 : Int) (frec_5 : Int → hf_M Int) (rec_5 : Int → gM Int) (hrec_5 : ∀ s : Int, gr (frec_5 s) (rec_5 s)) (x2 : Int) : gr (B_J7_fill_53178_5 6 x1 x3 frec_5 x2) (gB_J7_fill_5_o6 x1 x3 rec_5 x2) := by
  unfold B_J7_fill_53178_5 gB_J7_fill_5_o6
  refine gr_cb ?_ ?_
  · exact gr_ret _
  · refine gr_as 6 41 (by decide) (by decide) rfl (by decide) rfl rfl ?_
    refine gr_let (fun x2_14 => ?_)
    exact hrec_5 _
def g_J7_fill_5_o6 (x1 : Int) (x2 : Int) (x3 : Int) : gM Int :=
  gfx (fun rec s => gB_J7_fill_5_o6 x1 x3 rec s) hf_N x2
set_option maxRecDepth 20000 in
theorem r_J7_fill_5_o6 (x1 : Int) (x2 : Int) (x3 : Int) : gr (f_J7_fill_53178_5 6 x1 x2 x3) (g_J7_fill_5_o6 x1 x2 x3) := by
  unfold f_J7_fill_53178_5 g_J7_fill_5_o6
  refine gr_fx (fun frec rec hrec s => ?_) _ _
  exact rB_J7_fill_5_o6 _ _ _ _ hrec _
def g_J7_fill_o6 (x1 : Int) : gM Int :=
  g_J7_fill_5_o6 x1 0 41
set_option maxRecDepth 20000 in
theorem r_J7_fill_o6 (x1 : Int) : gr (f_J7_fill_53178 6 x1) (g_J7_fill_o6 x1) := by
  unfold f_J7_fill_53178 g_J7_fill_o6
  refine gr_an 6 41 (by decide) (by decide) rfl rfl ?_
  exact r_J7_fill_5_o6 _ _ _
def g_X8_renew (x1 : Int) : gM Int :=
  gput (-200) (x1) (gbd (g_J7_fill_o6 1) (fun _ => gget (-207) (fun v15 => gput (-207) ((v15 + 1)) (gret (0)))))
set_option maxRecDepth 20000 in
theorem r_X8_renew (x1 : Int) : gr (f_X8_renew 2 x1) (g_X8_renew x1) := by
  unfold f_X8_renew g_X8_renew
  refine gr_pf 2 (by decide) (by decide) rfl (by decide) (by decide) rfl rfl ?_
  refine gr_gfp 2 6 (by decide) (by decide) rfl rfl (by decide) ?_
  refine gr_bd (r_J7_fill_o6 _) (fun _ => ?_)
  refine gr_gf 2 (by decide) (by decide) rfl (by decide) rfl (fun v15 => ?_)
  refine gr_pf 2 (by decide) (by decide) rfl (by decide) (by decide) rfl rfl ?_
  exact gr_ret _
def g_X3_clear  : gM Int :=
  gput (-5300) (0) (gret (0))
set_option maxRecDepth 20000 in
theorem r_X3_clear  : gr (f_X3_clear 53) (g_X3_clear ) := by
  unfold f_X3_clear g_X3_clear
  refine gr_pf 53 (by decide) (by decide) rfl (by decide) (by decide) rfl rfl ?_
  exact gr_ret _
def g_X11_stair (x1 : Int) : gM Int :=
  gcb (x1) (1) ((x1 < 1)) (gret (0)) (gcb (x1) (40) ((x1 ≤ 40)) (gbd (g_X8_renew x1) (fun _ => gbd (g_X3_clear) (fun _ => gput (-114) (0) (gret (1))))) (gret (0)))
set_option maxRecDepth 20000 in
theorem r_X11_stair (x1 : Int) : gr (f_X11_stair 1 x1) (g_X11_stair x1) := by
  unfold f_X11_stair g_X11_stair
  refine gr_cb ?_ ?_
  · exact gr_ret _
  · refine gr_cb ?_ ?_
    · refine gr_gfp 1 2 (by decide) (by decide) rfl rfl (by decide) ?_
      refine gr_bd (gr_ob 2 (by decide) (by decide) rfl (r_X8_renew _)) (fun _ => ?_)
      refine gr_gfp 1 53 (by decide) (by decide) rfl rfl (by decide) ?_
      refine gr_bd (gr_ob 53 (by decide) (by decide) rfl (r_X3_clear)) (fun _ => ?_)
      refine gr_pf 1 (by decide) (by decide) rfl (by decide) (by decide) rfl rfl ?_
      exact gr_ret _
    · exact gr_ret _
def g_X12_isIn (x0 : Int) (x1 : Int) (x2 : Int) : gM Int :=
  gcb (x0) (x1) ((x0 < x1)) (gret (0)) (gcb (x0) (x2) ((x2 < x0)) (gret (0)) (gret (1)))
set_option maxRecDepth 20000 in
theorem r_X12_isIn (x0 : Int) (x1 : Int) (x2 : Int) : gr (f_X12_isIn x0 x1 x2) (g_X12_isIn x0 x1 x2) := by
  unfold f_X12_isIn g_X12_isIn
  refine gr_cb ?_ ?_
  · exact gr_ret _
  · refine gr_cb ?_ ?_
    · exact gr_ret _
    · exact gr_ret _
def gB_X12_stair_24 (rec_24 : Int → gM Int) (x2 : Int) : gM Int :=
  gcb (x2) (41) ((41 ≤ x2)) (gput (-6957) (0) (gput (-6963) (0) (gret (1)))) (gas 74 41 (x2) (1) (glet ((x2 + 1)) (fun x2_37 => rec_24 x2_37)))
set_option maxRecDepth 20000 in
theorem rB_X12_stair_24 (frec_24 : Int → hf_M Int) (rec_24 : Int → gM Int) (hrec_24 : ∀ s : Int, gr (frec_24 s) (rec_24 s)) (x2 : Int) : gr (B_X12_stair_24 69 frec_24 x2) (gB_X12_stair_24 rec_24 x2) := by
  unfold B_X12_stair_24 gB_X12_stair_24
  refine gr_cb ?_ ?_
  · refine gr_pf 69 (by decide) (by decide) rfl (by decide) (by decide) rfl rfl ?_
    refine gr_pf 69 (by decide) (by decide) rfl (by decide) (by decide) rfl rfl ?_
    exact gr_ret _
  · refine gr_gfp 69 74 (by decide) (by decide) rfl rfl (by decide) ?_
    refine gr_as 74 41 (by decide) (by decide) rfl (by decide) rfl rfl ?_
    refine gr_let (fun x2_37 => ?_)
    exact hrec_24 _
def g_X12_stair_24 (x2 : Int) : gM Int :=
  gfx (fun rec s => gB_X12_stair_24 rec s) hf_N x2
set_option maxRecDepth 20000 in
theorem r_X12_stair_24 (x2 : Int) : gr (f_X12_stair_24 69 x2) (g_X12_stair_24 x2) := by
  unfold f_X12_stair_24 g_X12_stair_24
  refine gr_fx (fun frec rec hrec s => ?_) _ _
  exact rB_X12_stair_24 _ _ hrec _
def g_X12_stair (x1 : Int) : gM Int :=
  gput (-6902) (0) (gbd (g_X12_isIn x1 1 40) (fun v9 => gcz (v9) ((¬ (v9 = 0))) (gput (-6903) (x1) (g_X12_stair_24 0)) (gret (0))))
set_option maxRecDepth 20000 in
theorem r_X12_stair (x1 : Int) : gr (f_X12_stair 69 x1) (g_X12_stair x1) := by
  unfold f_X12_stair g_X12_stair
  refine gr_pf 69 (by decide) (by decide) rfl (by decide) (by decide) rfl rfl ?_
  refine gr_bd (r_X12_isIn _ _ _) (fun v9 => ?_)
  refine gr_cz ?_ ?_
  · refine gr_pf 69 (by decide) (by decide) rfl (by decide) (by decide) rfl rfl ?_
    exact r_X12_stair_24 _
  · exact gr_ret _
def g_X8_hasKind (x1 : Int) : gM Int :=
  gcz (x1) ((x1 < 0)) (gret (0)) (gcb (x1) (3) ((3 ≤ x1)) (gret (0)) (gret (1)))
set_option maxRecDepth 20000 in
theorem r_X8_hasKind (x1 : Int) : gr (f_X8_hasKind 2 x1) (g_X8_hasKind x1) := by
  unfold f_X8_hasKind g_X8_hasKind
  refine gr_cz ?_ ?_
  · exact gr_ret _
  · refine gr_cb ?_ ?_
    · exact gr_ret _
    · exact gr_ret _
def g_X11_isWithin (x0 : Int) (x1 : Int) : gM Int :=
  gcz (x0) ((x0 < 0)) (gret (0)) (gcb (x0) (x1) ((x1 < x0)) (gret (0)) (gret (1)))
set_option maxRecDepth 20000 in
theorem r_X11_isWithin (x0 : Int) (x1 : Int) : gr (f_X11_isWithin x0 x1) (g_X11_isWithin x0 x1) := by
  unfold f_X11_isWithin g_X11_isWithin
  refine gr_cz ?_ ?_
  · exact gr_ret _
  · refine gr_cb ?_ ?_
    · exact gr_ret _
    · exact gr_ret _
def g_X8_setKind (x1 : Int) (x2 : Int) (x3 : Int) (x4 : Int) : gM Int :=
  gas 3 3 (x1) (x2) (gas 4 3 (x1) (x3) (gas 5 3 (x1) (x4) (gget (-207) (fun v24 => gput (-207) ((v24 + 1)) (gret (0))))))
set_option maxRecDepth 20000 in
theorem r_X8_setKind (x1 : Int) (x2 : Int) (x3 : Int) (x4 : Int) : gr (f_X8_setKind 2 x1 x2 x3 x4) (g_X8_setKind x1 x2 x3 x4) := by
  unfold f_X8_setKind g_X8_setKind
  refine gr_gfp 2 3 (by decide) (by decide) rfl rfl (by decide) ?_
  refine gr_as 3 3 (by decide) (by decide) rfl (by decide) rfl rfl ?_
  refine gr_gfp 2 4 (by decide) (by decide) rfl rfl (by decide) ?_
  refine gr_as 4 3 (by decide) (by decide) rfl (by decide) rfl rfl ?_
  refine gr_gfp 2 5 (by decide) (by decide) rfl rfl (by decide) ?_
  refine gr_as 5 3 (by decide) (by decide) rfl (by decide) rfl rfl ?_
  refine gr_gf 2 (by decide) (by decide) rfl (by decide) rfl (fun v24 => ?_)
  refine gr_pf 2 (by decide) (by decide) rfl (by decide) (by decide) rfl rfl ?_
  exact gr_ret _
def g_X11_kind (x1 : Int) (x2 : Int) (x3 : Int) (x4 : Int) : gM Int :=
  gbd (g_X8_hasKind x1) (fun v5 => gcz (v5) ((v5 = 0)) (gret (0)) (gcb (x2) ((-9)) ((x2 < (-9))) (gret (0)) (gcb (x2) (9) ((9 < x2)) (gret (0)) (gbd (g_X11_isWithin x3 4) (fun v25 => gcz (v25) ((v25 = 0)) (gret (0)) (gbd (g_X11_isWithin x4 99) (fun v35 => gcz (v35) ((¬ (v35 = 0))) (gbd (g_X8_setKind x1 x2 x3 x4) (fun _ => gput (-114) (0) (gret (1)))) (gret (0)))))))))
set_option maxRecDepth 20000 in
theorem r_X11_kind (x1 : Int) (x2 : Int) (x3 : Int) (x4 : Int) : gr (f_X11_kind 1 x1 x2 x3 x4) (g_X11_kind x1 x2 x3 x4) := by
  unfold f_X11_kind g_X11_kind
  refine gr_gfp 1 2 (by decide) (by decide) rfl rfl (by decide) ?_
  refine gr_bd (gr_ob 2 (by decide) (by decide) rfl (r_X8_hasKind _)) (fun v5 => ?_)
  refine gr_cz ?_ ?_
  · exact gr_ret _
  · refine gr_cb ?_ ?_
    · exact gr_ret _
    · refine gr_cb ?_ ?_
      · exact gr_ret _
      · refine gr_bd (r_X11_isWithin _ _) (fun v25 => ?_)
        refine gr_cz ?_ ?_
        · exact gr_ret _
        · refine gr_bd (r_X11_isWithin _ _) (fun v35 => ?_)
          refine gr_cz ?_ ?_
          · refine gr_gfp 1 2 (by decide) (by decide) rfl rfl (by decide) ?_
            refine gr_bd (gr_ob 2 (by decide) (by decide) rfl (r_X8_setKind _ _ _ _)) (fun _ => ?_)
            refine gr_pf 1 (by decide) (by decide) rfl (by decide) (by decide) rfl rfl ?_
            exact gr_ret _
          · exact gr_ret _
def g_X12_isKind (x0 : Int) : gM Int :=
  gcz (x0) ((x0 < 0)) (gret (0)) (gcb (x0) (3) ((3 ≤ x0)) (gret (0)) (gret (1)))
set_option maxRecDepth 20000 in
theorem r_X12_isKind (x0 : Int) : gr (f_X12_isKind x0) (g_X12_isKind x0) := by
  unfold f_X12_isKind g_X12_isKind
  refine gr_cz ?_ ?_
  · exact gr_ret _
  · refine gr_cb ?_ ?_
    · exact gr_ret _
    · exact gr_ret _
def g_X12_kind (x1 : Int) (x2 : Int) (x3 : Int) (x4 : Int) : gM Int :=
  gput (-6902) (0) (gbd (g_X12_isKind x1) (fun v6 => gcz (v6) ((v6 = 0)) (gret (0)) (gbd (g_X12_isIn x2 (-9) 9) (fun v17 => gcz (v17) ((v17 = 0)) (gret (0)) (gbd (g_X12_isIn x3 0 4) (fun v26 => gcz (v26) ((v26 = 0)) (gret (0)) (gbd (g_X12_isIn x4 0 99) (fun v37 => gcz (v37) ((¬ (v37 = 0))) (gas 71 3 (x1) (x2) (gas 72 3 (x1) (x3) (gas 73 3 (x1) (x4) (gput (-6963) (0) (gret (1)))))) (gret (0))))))))))
set_option maxRecDepth 20000 in
theorem r_X12_kind (x1 : Int) (x2 : Int) (x3 : Int) (x4 : Int) : gr (f_X12_kind 69 x1 x2 x3 x4) (g_X12_kind x1 x2 x3 x4) := by
  unfold f_X12_kind g_X12_kind
  refine gr_pf 69 (by decide) (by decide) rfl (by decide) (by decide) rfl rfl ?_
  refine gr_bd (r_X12_isKind _) (fun v6 => ?_)
  refine gr_cz ?_ ?_
  · exact gr_ret _
  · refine gr_bd (r_X12_isIn _ _ _) (fun v17 => ?_)
    refine gr_cz ?_ ?_
    · exact gr_ret _
    · refine gr_bd (r_X12_isIn _ _ _) (fun v26 => ?_)
      refine gr_cz ?_ ?_
      · exact gr_ret _
      · refine gr_bd (r_X12_isIn _ _ _) (fun v37 => ?_)
        refine gr_cz ?_ ?_
        · refine gr_gfp 69 71 (by decide) (by decide) rfl rfl (by decide) ?_
          refine gr_as 71 3 (by decide) (by decide) rfl (by decide) rfl rfl ?_
          refine gr_gfp 69 72 (by decide) (by decide) rfl rfl (by decide) ?_
          refine gr_as 72 3 (by decide) (by decide) rfl (by decide) rfl rfl ?_
          refine gr_gfp 69 73 (by decide) (by decide) rfl rfl (by decide) ?_
          refine gr_as 73 3 (by decide) (by decide) rfl (by decide) rfl rfl ?_
          refine gr_pf 69 (by decide) (by decide) rfl (by decide) (by decide) rfl rfl ?_
          exact gr_ret _
        · exact gr_ret _
def g_X8_setCosts (x1 : Int) (x2 : Int) : gM Int :=
  gput (-204) (x1) (gput (-205) (x2) (gget (-207) (fun v12 => gput (-207) ((v12 + 1)) (gret (0)))))
set_option maxRecDepth 20000 in
theorem r_X8_setCosts (x1 : Int) (x2 : Int) : gr (f_X8_setCosts 2 x1 x2) (g_X8_setCosts x1 x2) := by
  unfold f_X8_setCosts g_X8_setCosts
  refine gr_pf 2 (by decide) (by decide) rfl (by decide) (by decide) rfl rfl ?_
  refine gr_pf 2 (by decide) (by decide) rfl (by decide) (by decide) rfl rfl ?_
  refine gr_gf 2 (by decide) (by decide) rfl (by decide) rfl (fun v12 => ?_)
  refine gr_pf 2 (by decide) (by decide) rfl (by decide) (by decide) rfl rfl ?_
  exact gr_ret _
def g_X11_cost (x1 : Int) (x2 : Int) : gM Int :=
  gbd (g_X11_isWithin x1 99) (fun v3 => gcz (v3) ((v3 = 0)) (gret (0)) (gbd (g_X11_isWithin x2 9) (fun v12 => gcz (v12) ((¬ (v12 = 0))) (gbd (g_X8_setCosts x1 x2) (fun _ => gret (1))) (gret (0)))))
set_option maxRecDepth 20000 in
theorem r_X11_cost (x1 : Int) (x2 : Int) : gr (f_X11_cost 1 x1 x2) (g_X11_cost x1 x2) := by
  unfold f_X11_cost g_X11_cost
  refine gr_bd (r_X11_isWithin _ _) (fun v3 => ?_)
  refine gr_cz ?_ ?_
  · exact gr_ret _
  · refine gr_bd (r_X11_isWithin _ _) (fun v12 => ?_)
    refine gr_cz ?_ ?_
    · refine gr_gfp 1 2 (by decide) (by decide) rfl rfl (by decide) ?_
      refine gr_bd (gr_ob 2 (by decide) (by decide) rfl (r_X8_setCosts _ _)) (fun _ => ?_)
      exact gr_ret _
    · exact gr_ret _
def g_X12_cost (x1 : Int) (x2 : Int) : gM Int :=
  gput (-6902) (0) (gbd (g_X12_isIn x1 0 99) (fun v9 => gcz (v9) ((v9 = 0)) (gret (0)) (gbd (g_X12_isIn x2 0 9) (fun v19 => gcz (v19) ((¬ (v19 = 0))) (gput (-6908) (x1) (gput (-6909) (x2) (gret (1)))) (gret (0))))))
set_option maxRecDepth 20000 in
theorem r_X12_cost (x1 : Int) (x2 : Int) : gr (f_X12_cost 69 x1 x2) (g_X12_cost x1 x2) := by
  unfold f_X12_cost g_X12_cost
  refine gr_pf 69 (by decide) (by decide) rfl (by decide) (by decide) rfl rfl ?_
  refine gr_bd (r_X12_isIn _ _ _) (fun v9 => ?_)
  refine gr_cz ?_ ?_
  · exact gr_ret _
  · refine gr_bd (r_X12_isIn _ _ _) (fun v19 => ?_)
    refine gr_cz ?_ ?_
    · refine gr_pf 69 (by decide) (by decide) rfl (by decide) (by decide) rfl rfl ?_
      refine gr_pf 69 (by decide) (by decide) rfl (by decide) (by decide) rfl rfl ?_
      exact gr_ret _
    · exact gr_ret _
def g_X8_hasStrength (x1 : Int) : gM Int :=
  gcz (x1) ((x1 < 0)) (gret (0)) (gget (-200) (fun v6 => gcb (x1) (v6) ((v6 < x1)) (gret (0)) (gret (1))))
set_option maxRecDepth 20000 in
theorem r_X8_hasStrength (x1 : Int) : gr (f_X8_hasStrength 2 x1) (g_X8_hasStrength x1) := by
  unfold f_X8_hasStrength g_X8_hasStrength
  refine gr_cz ?_ ?_
  · exact gr_ret _
  · refine gr_gf 2 (by decide) (by decide) rfl (by decide) rfl (fun v6 => ?_)
    refine gr_cb ?_ ?_
    · exact gr_ret _
    · exact gr_ret _
def g_X8_setWeight (x1 : Int) (x2 : Int) : gM Int :=
  gas 6 41 (x1) (x2) (gget (-207) (fun v9 => gput (-207) ((v9 + 1)) (gret (0))))
set_option maxRecDepth 20000 in
theorem r_X8_setWeight (x1 : Int) (x2 : Int) : gr (f_X8_setWeight 2 x1 x2) (g_X8_setWeight x1 x2) := by
  unfold f_X8_setWeight g_X8_setWeight
  refine gr_gfp 2 6 (by decide) (by decide) rfl rfl (by decide) ?_
  refine gr_as 6 41 (by decide) (by decide) rfl (by decide) rfl rfl ?_
  refine gr_gf 2 (by decide) (by decide) rfl (by decide) rfl (fun v9 => ?_)
  refine gr_pf 2 (by decide) (by decide) rfl (by decide) (by decide) rfl rfl ?_
  exact gr_ret _
def g_X11_weight (x1 : Int) (x2 : Int) : gM Int :=
  gbd (g_X8_hasStrength x1) (fun v5 => gcz (v5) ((v5 = 0)) (gret (0)) (gbd (g_X11_isWithin x2 99) (fun v14 => gcz (v14) ((¬ (v14 = 0))) (gbd (g_X8_setWeight x1 x2) (fun _ => gret (1))) (gret (0)))))
set_option maxRecDepth 20000 in
theorem r_X11_weight (x1 : Int) (x2 : Int) : gr (f_X11_weight 1 x1 x2) (g_X11_weight x1 x2) := by
  unfold f_X11_weight g_X11_weight
  refine gr_gfp 1 2 (by decide) (by decide) rfl rfl (by decide) ?_
  refine gr_bd (gr_ob 2 (by decide) (by decide) rfl (r_X8_hasStrength _)) (fun v5 => ?_)
  refine gr_cz ?_ ?_
  · exact gr_ret _
  · refine gr_bd (r_X11_isWithin _ _) (fun v14 => ?_)
    refine gr_cz ?_ ?_
    · refine gr_gfp 1 2 (by decide) (by decide) rfl rfl (by decide) ?_
      refine gr_bd (gr_ob 2 (by decide) (by decide) rfl (r_X8_setWeight _ _)) (fun _ => ?_)
      exact gr_ret _
    · exact gr_ret _
def g_X12_isStrength (x1 : Int) : gM Int :=
  gcz (x1) ((x1 < 0)) (gret (0)) (gget (-6903) (fun v6 => gcb (x1) (v6) ((v6 < x1)) (gret (0)) (gret (1))))
set_option maxRecDepth 20000 in
theorem r_X12_isStrength (x1 : Int) : gr (f_X12_isStrength 69 x1) (g_X12_isStrength x1) := by
  unfold f_X12_isStrength g_X12_isStrength
  refine gr_cz ?_ ?_
  · exact gr_ret _
  · refine gr_gf 69 (by decide) (by decide) rfl (by decide) rfl (fun v6 => ?_)
    refine gr_cb ?_ ?_
    · exact gr_ret _
    · exact gr_ret _
def g_X12_weight (x1 : Int) (x2 : Int) : gM Int :=
  gput (-6902) (0) (gbd (g_X12_isStrength x1) (fun v7 => gcz (v7) ((v7 = 0)) (gret (0)) (gbd (g_X12_isIn x2 0 99) (fun v17 => gcz (v17) ((¬ (v17 = 0))) (gas 74 41 (x1) (x2) (gret (1))) (gret (0))))))
set_option maxRecDepth 20000 in
theorem r_X12_weight (x1 : Int) (x2 : Int) : gr (f_X12_weight 69 x1 x2) (g_X12_weight x1 x2) := by
  unfold f_X12_weight g_X12_weight
  refine gr_pf 69 (by decide) (by decide) rfl (by decide) (by decide) rfl rfl ?_
  refine gr_bd (gr_ob 69 (by decide) (by decide) rfl (r_X12_isStrength _)) (fun v7 => ?_)
  refine gr_cz ?_ ?_
  · exact gr_ret _
  · refine gr_bd (r_X12_isIn _ _ _) (fun v17 => ?_)
    refine gr_cz ?_ ?_
    · refine gr_gfp 69 74 (by decide) (by decide) rfl rfl (by decide) ?_
      refine gr_as 74 41 (by decide) (by decide) rfl (by decide) rfl rfl ?_
      exact gr_ret _
    · exact gr_ret _
def g_X12_fails (x1 : Int) : gM Int :=
  gput (-6902) (x1) (gret (0))
set_option maxRecDepth 20000 in
theorem r_X12_fails (x1 : Int) : gr (f_X12_fails 69 x1) (g_X12_fails x1) := by
  unfold f_X12_fails g_X12_fails
  refine gr_pf 69 (by decide) (by decide) rfl (by decide) (by decide) rfl rfl ?_
  exact gr_ret _
def g_X12_look (x1 : Int) (x2 : Int) : gM Int :=
  gput (-6902) (0) (gbd (g_X12_isKind x1) (fun v6 => gcz (v6) ((¬ (v6 = 0))) (gck (hf_inI x2) (git ((x2 = 0)) (gal 71 3 (x1) (fun v49 => gret (v49))) (git ((x2 = 1)) (gal 72 3 (x1) (fun v56 => gret (v56))) (git ((x2 = 2)) (gal 73 3 (x1) (fun v63 => gret (v63))) (gbd (g_X12_fails 2) (fun v67 => gret (v67))))))) (gbd (g_X12_fails 1) (fun v14 => gret (v14)))))
set_option maxRecDepth 20000 in
theorem r_X12_look (x1 : Int) (x2 : Int) : gr (f_X12_look 69 x1 x2) (g_X12_look x1 x2) := by
  unfold f_X12_look g_X12_look
  refine gr_pf 69 (by decide) (by decide) rfl (by decide) (by decide) rfl rfl ?_
  refine gr_bd (r_X12_isKind _) (fun v6 => ?_)
  refine gr_cz ?_ ?_
  · refine gr_ck (fun _ => ?_)
    refine gr_it ?_ ?_
    · refine gr_gfp 69 71 (by decide) (by decide) rfl rfl (by decide) ?_
      refine gr_al 71 3 (by decide) (by decide) rfl (by decide) rfl (fun v49 => ?_)
      exact gr_ret _
    · refine gr_it ?_ ?_
      · refine gr_gfp 69 72 (by decide) (by decide) rfl rfl (by decide) ?_
        refine gr_al 72 3 (by decide) (by decide) rfl (by decide) rfl (fun v56 => ?_)
        exact gr_ret _
      · refine gr_it ?_ ?_
        · refine gr_gfp 69 73 (by decide) (by decide) rfl rfl (by decide) ?_
          refine gr_al 73 3 (by decide) (by decide) rfl (by decide) rfl (fun v63 => ?_)
          exact gr_ret _
        · refine gr_bd (gr_ob 69 (by decide) (by decide) rfl (r_X12_fails _)) (fun v67 => ?_)
          exact gr_ret _
  · refine gr_bd (gr_ob 69 (by decide) (by decide) rfl (r_X12_fails _)) (fun v14 => ?_)
    exact gr_ret _
def g_X12_thrown  : gM Int :=
  gget (-6902) (fun v1 => gret (v1))
set_option maxRecDepth 20000 in
theorem r_X12_thrown  : gr (f_X12_thrown 69) (g_X12_thrown ) := by
  unfold f_X12_thrown g_X12_thrown
  refine gr_gf 69 (by decide) (by decide) rfl (by decide) rfl (fun v1 => ?_)
  exact gr_ret _
def g_X11_likely (x1 : Int) : gM Int :=
  gbd (g_X8_hasStrength x1) (fun v5 => gcz (v5) ((v5 = 0)) (gret ((-1))) (gal 6 41 (x1) (fun v19 => gret (v19))))
set_option maxRecDepth 20000 in
theorem r_X11_likely (x1 : Int) : gr (f_X11_likely 1 x1) (g_X11_likely x1) := by
  unfold f_X11_likely g_X11_likely
  refine gr_gfp 1 2 (by decide) (by decide) rfl rfl (by decide) ?_
  refine gr_bd (gr_ob 2 (by decide) (by decide) rfl (r_X8_hasStrength _)) (fun v5 => ?_)
  refine gr_cz ?_ ?_
  · exact gr_ret _
  · refine gr_gfp 1 2 (by decide) (by decide) rfl rfl (by decide) ?_
    refine gr_gfp 2 6 (by decide) (by decide) rfl rfl (by decide) ?_
    refine gr_al 6 41 (by decide) (by decide) rfl (by decide) rfl (fun v19 => ?_)
    exact gr_ret _
def g_X12_likely (x1 : Int) : gM Int :=
  gput (-6902) (0) (gbd (g_X12_isStrength x1) (fun v7 => gcz (v7) ((v7 = 0)) (gret ((-1))) (gal 74 41 (x1) (fun v18 => gret (v18)))))
set_option maxRecDepth 20000 in
theorem r_X12_likely (x1 : Int) : gr (f_X12_likely 69 x1) (g_X12_likely x1) := by
  unfold f_X12_likely g_X12_likely
  refine gr_pf 69 (by decide) (by decide) rfl (by decide) (by decide) rfl rfl ?_
  refine gr_bd (gr_ob 69 (by decide) (by decide) rfl (r_X12_isStrength _)) (fun v7 => ?_)
  refine gr_cz ?_ ?_
  · exact gr_ret _
  · refine gr_gfp 69 74 (by decide) (by decide) rfl rfl (by decide) ?_
    refine gr_al 74 41 (by decide) (by decide) rfl (by decide) rfl (fun v18 => ?_)
    exact gr_ret _
def g_X9_open (x2 : Int) : gM Int :=
  gput (-900) (7) (gck ((hf_inI x2) ∧ (hf_inI 400)) (glet ((min x2 400)) (fun v9 => gput (-901) (v9) (gput (-902) (0) (gret (0))))))
set_option maxRecDepth 20000 in
theorem r_X9_open (x2 : Int) : gr (f_X9_open 9 7 x2) (g_X9_open x2) := by
  unfold f_X9_open g_X9_open
  refine gr_pf 9 (by decide) (by decide) rfl (by decide) (by decide) rfl rfl ?_
  refine gr_an 7 400 (by decide) (by decide) rfl rfl ?_
  refine gr_ck (fun _ => ?_)
  refine gr_let (fun v9 => ?_)
  refine gr_pf 9 (by decide) (by decide) rfl (by decide) (by decide) rfl rfl ?_
  refine gr_pf 9 (by decide) (by decide) rfl (by decide) (by decide) rfl rfl ?_
  exact gr_ret _
def g_X4_clear (x0 : Int) : gM Int :=
  gck (x0 = 18 ∨ x0 = 23) (gput (-(100 * x0 + 0)) (0) (gck (x0 = 18 ∨ x0 = 23) (gput (-(100 * x0 + 1)) (0) (gret (0)))))
set_option maxRecDepth 20000 in
theorem r_X4_clear (x0 : Int) : gr (f_X4_clear x0) (g_X4_clear x0) := by
  unfold f_X4_clear g_X4_clear
  refine gr_pfps (by decide) rfl (fun hp => ?_)
  refine gr_pfps (by decide) rfl (fun hp => ?_)
  exact gr_ret _
def g_X5_read_115  : gM Int :=
  gget (-801) (fun v116 => gget (-804) (fun v120 => gck (v116 = 18 ∨ v116 = 23) (gput (-(100 * v116 + 1)) (v120) (gret (0)))))
set_option maxRecDepth 20000 in
theorem r_X5_read_115  : gr (f_X5_read_115 8) (g_X5_read_115 ) := by
  unfold f_X5_read_115 g_X5_read_115
  refine gr_gf 8 (by decide) (by decide) rfl (by decide) rfl (fun v116 => ?_)
  refine gr_gf 8 (by decide) (by decide) rfl (by decide) rfl (fun v120 => ?_)
  refine gr_pfps (by decide) rfl (fun hp => ?_)
  exact gr_ret _
def g_X9_isDigitAt (x1 : Int) : gM Int :=
  gget (-901) (fun v2 => gcb (x1) (v2) ((v2 ≤ x1)) (gret (0)) (gget (-900) (fun v => gck (v = 7) (gal 7 400 (x1) (fun v13 => gcb (v13) (48) ((v13 < 48)) (gret (0)) (gget (-900) (fun v => gck (v = 7) (gal 7 400 (x1) (fun v24 => gcb (v24) (57) ((57 < v24)) (gret (0)) (gret (1)))))))))))
set_option maxRecDepth 20000 in
theorem r_X9_isDigitAt (x1 : Int) : gr (f_X9_isDigitAt 9 x1) (g_X9_isDigitAt x1) := by
  unfold f_X9_isDigitAt g_X9_isDigitAt
  refine gr_gf 9 (by decide) (by decide) rfl (by decide) rfl (fun v2 => ?_)
  refine gr_cb ?_ ?_
  · exact gr_ret _
  · refine gr_gft (by decide) ?_
    refine gr_al 7 400 (by decide) (by decide) rfl (by decide) rfl (fun v13 => ?_)
    refine gr_cb ?_ ?_
    · exact gr_ret _
    · refine gr_gft (by decide) ?_
      refine gr_al 7 400 (by decide) (by decide) rfl (by decide) rfl (fun v24 => ?_)
      refine gr_cb ?_ ?_
      · exact gr_ret _
      · exact gr_ret _
def g_X9_isLetterAt (x1 : Int) : gM Int :=
  gget (-901) (fun v2 => gcb (x1) (v2) ((v2 ≤ x1)) (gret (0)) (gget (-900) (fun v => gck (v = 7) (gal 7 400 (x1) (fun v13 => gcb (v13) (97) ((v13 < 97)) (gret (0)) (gget (-900) (fun v => gck (v = 7) (gal 7 400 (x1) (fun v24 => gcb (v24) (122) ((122 < v24)) (gret (0)) (gret (1)))))))))))
set_option maxRecDepth 20000 in
theorem r_X9_isLetterAt (x1 : Int) : gr (f_X9_isLetterAt 9 x1) (g_X9_isLetterAt x1) := by
  unfold f_X9_isLetterAt g_X9_isLetterAt
  refine gr_gf 9 (by decide) (by decide) rfl (by decide) rfl (fun v2 => ?_)
  refine gr_cb ?_ ?_
  · exact gr_ret _
  · refine gr_gft (by decide) ?_
    refine gr_al 7 400 (by decide) (by decide) rfl (by decide) rfl (fun v13 => ?_)
    refine gr_cb ?_ ?_
    · exact gr_ret _
    · refine gr_gft (by decide) ?_
      refine gr_al 7 400 (by decide) (by decide) rfl (by decide) rfl (fun v24 => ?_)
      refine gr_cb ?_ ?_
      · exact gr_ret _
      · exact gr_ret _
def g_X9_signOf (x0 : Int) : gM Int :=
  gck (hf_inI x0) (git ((x0 = 40)) (gret (3)) (git ((x0 = 41)) (gret (4)) (git ((x0 = 42)) (gret (29)) (git ((x0 = 43)) (gret (27)) (git ((x0 = 45)) (gret (28)) (git ((x0 = 47)) (gret (30)) (git ((x0 = 59)) (gret (5)) (git ((x0 = 60)) (gret (21)) (git ((x0 = 61)) (gret (23)) (git ((x0 = 62)) (gret (26)) (gret (1))))))))))))
set_option maxRecDepth 20000 in
theorem r_X9_signOf (x0 : Int) : gr (f_X9_signOf x0) (g_X9_signOf x0) := by
  unfold f_X9_signOf g_X9_signOf
  refine gr_ck (fun _ => ?_)
  refine gr_it ?_ ?_
  · exact gr_ret _
  · refine gr_it ?_ ?_
    · exact gr_ret _
    · refine gr_it ?_ ?_
      · exact gr_ret _
      · refine gr_it ?_ ?_
        · exact gr_ret _
        · refine gr_it ?_ ?_
          · exact gr_ret _
          · refine gr_it ?_ ?_
            · exact gr_ret _
            · refine gr_it ?_ ?_
              · exact gr_ret _
              · refine gr_it ?_ ?_
                · exact gr_ret _
                · refine gr_it ?_ ?_
                  · exact gr_ret _
                  · refine gr_it ?_ ?_
                    · exact gr_ret _
                    · exact gr_ret _
def g_X9_readSign_116 (x2 : Int) : gM Int :=
  gget (-903) (fun v118 => gcb (x2) (v118) ((x2 = v118)) (gret (0)) (gput (-903) (x2) (gget (-902) (fun v131 => gput (-902) ((v131 + 1)) (gret (0))))))
set_option maxRecDepth 20000 in
theorem r_X9_readSign_116 (x2 : Int) : gr (f_X9_readSign_116 9 x2) (g_X9_readSign_116 x2) := by
  unfold f_X9_readSign_116 g_X9_readSign_116
  refine gr_gf 9 (by decide) (by decide) rfl (by decide) rfl (fun v118 => ?_)
  refine gr_cb ?_ ?_
  · exact gr_ret _
  · refine gr_pf 9 (by decide) (by decide) rfl (by decide) (by decide) rfl rfl ?_
    refine gr_gf 9 (by decide) (by decide) rfl (by decide) rfl (fun v131 => ?_)
    refine gr_pf 9 (by decide) (by decide) rfl (by decide) (by decide) rfl rfl ?_
    exact gr_ret _
def g_X9_readSign_98 (x1 : Int) (x2 : Int) : gM Int :=
  gget (-903) (fun v99 => gcb (v99) (26) ((¬ (v99 = 26))) (g_X9_readSign_116 x2) (gcb (x1) (61) ((¬ (x1 = 61))) (g_X9_readSign_116 x2) (g_X9_readSign_116 25)))
set_option maxRecDepth 20000 in
theorem r_X9_readSign_98 (x1 : Int) (x2 : Int) : gr (f_X9_readSign_98 9 x1 x2) (g_X9_readSign_98 x1 x2) := by
  unfold f_X9_readSign_98 g_X9_readSign_98
  refine gr_gf 9 (by decide) (by decide) rfl (by decide) rfl (fun v99 => ?_)
  refine gr_cb ?_ ?_
  · exact r_X9_readSign_116 _
  · refine gr_cb ?_ ?_
    · exact r_X9_readSign_116 _
    · exact r_X9_readSign_116 _
def g_X9_readSign_77 (x1 : Int) (x2 : Int) : gM Int :=
  gget (-903) (fun v78 => gcb (v78) (21) ((¬ (v78 = 21))) (g_X9_readSign_98 x1 x2) (gcb (x1) (62) ((¬ (x1 = 62))) (g_X9_readSign_98 x1 x2) (g_X9_readSign_116 24)))
set_option maxRecDepth 20000 in
theorem r_X9_readSign_77 (x1 : Int) (x2 : Int) : gr (f_X9_readSign_77 9 x1 x2) (g_X9_readSign_77 x1 x2) := by
  unfold f_X9_readSign_77 g_X9_readSign_77
  refine gr_gf 9 (by decide) (by decide) rfl (by decide) rfl (fun v78 => ?_)
  refine gr_cb ?_ ?_
  · exact r_X9_readSign_98 _ _
  · refine gr_cb ?_ ?_
    · exact r_X9_readSign_98 _ _
    · exact r_X9_readSign_116 _
def g_X9_readSign_50 (s0 : Int) : gM Int :=
  gget (-903) (fun v52 => gget (-903) (fun v57 => gcb (v57) (21) ((¬ (v57 = 21))) (g_X9_readSign_77 s0 v52) (gcb (s0) (61) ((¬ (s0 = 61))) (g_X9_readSign_77 s0 v52) (g_X9_readSign_116 22))))
set_option maxRecDepth 20000 in
theorem r_X9_readSign_50 (s0 : Int) : gr (f_X9_readSign_50 9 s0) (g_X9_readSign_50 s0) := by
  unfold f_X9_readSign_50 g_X9_readSign_50
  refine gr_gf 9 (by decide) (by decide) rfl (by decide) rfl (fun v52 => ?_)
  refine gr_gf 9 (by decide) (by decide) rfl (by decide) rfl (fun v57 => ?_)
  refine gr_cb ?_ ?_
  · exact r_X9_readSign_77 _ _
  · refine gr_cb ?_ ?_
    · exact r_X9_readSign_77 _ _
    · exact r_X9_readSign_116 _
def g_X9_readSign  : gM Int :=
  gget (-900) (fun v => gck (v = 7) (gget (-902) (fun v6 => gal 7 400 (v6) (fun v9 => gbd (g_X9_signOf v9) (fun v10 => gput (-903) (v10) (gget (-902) (fun v18 => gput (-902) ((v18 + 1)) (gget (-902) (fun v27 => gget (-901) (fun v31 => gcb (v27) (v31) ((v31 ≤ v27)) (g_X9_readSign_50 0) (gget (-900) (fun v => gck (v = 7) (gget (-902) (fun v42 => gal 7 400 (v42) (fun v45 => g_X9_readSign_50 v45)))))))))))))))
set_option maxRecDepth 20000 in
theorem r_X9_readSign  : gr (f_X9_readSign 9) (g_X9_readSign ) := by
  unfold f_X9_readSign g_X9_readSign
  refine gr_gft (by decide) ?_
  refine gr_gf 9 (by decide) (by decide) rfl (by decide) rfl (fun v6 => ?_)
  refine gr_al 7 400 (by decide) (by decide) rfl (by decide) rfl (fun v9 => ?_)
  refine gr_bd (r_X9_signOf _) (fun v10 => ?_)
  refine gr_pf 9 (by decide) (by decide) rfl (by decide) (by decide) rfl rfl ?_
  refine gr_gf 9 (by decide) (by decide) rfl (by decide) rfl (fun v18 => ?_)
  refine gr_pf 9 (by decide) (by decide) rfl (by decide) (by decide) rfl rfl ?_
  refine gr_gf 9 (by decide) (by decide) rfl (by decide) rfl (fun v27 => ?_)
  refine gr_gf 9 (by decide) (by decide) rfl (by decide) rfl (fun v31 => ?_)
  refine gr_cb ?_ ?_
  · exact r_X9_readSign_50 _
  · refine gr_gft (by decide) ?_
    refine gr_gf 9 (by decide) (by decide) rfl (by decide) rfl (fun v42 => ?_)
    refine gr_al 7 400 (by decide) (by decide) rfl (by decide) rfl (fun v45 => ?_)
    exact r_X9_readSign_50 _
def g_X9_wordOf (x0 : Int) : gM Int :=
  gck (hf_inI x0) (git ((x0 = 6)) (gret ((-2))) (git ((x0 = 7)) (gret ((-4))) (git ((x0 = 8)) (gret ((-6))) (git ((x0 = 9)) (gret ((-8))) (git ((x0 = 10)) (gret ((-10))) (git ((x0 = 11)) (gret ((-12))) (git ((x0 = 12)) (gret ((-14))) (git ((x0 = 13)) (gret ((-16))) (git ((x0 = 14)) (gret ((-18))) (git ((x0 = 15)) (gret ((-20))) (git ((x0 = 16)) (gret ((-22))) (git ((x0 = 17)) (gret ((-24))) (git ((x0 = 18)) (gret ((-26))) (git ((x0 = 19)) (gret ((-28))) (git ((x0 = 20)) (gret ((-30))) (gret ((-32))))))))))))))))))
set_option maxRecDepth 20000 in
theorem r_X9_wordOf (x0 : Int) : gr (f_X9_wordOf x0) (g_X9_wordOf x0) := by
  unfold f_X9_wordOf g_X9_wordOf
  refine gr_ck (fun _ => ?_)
  refine gr_it ?_ ?_
  · exact gr_ret _
  · refine gr_it ?_ ?_
    · exact gr_ret _
    · refine gr_it ?_ ?_
      · exact gr_ret _
      · refine gr_it ?_ ?_
        · exact gr_ret _
        · refine gr_it ?_ ?_
          · exact gr_ret _
          · refine gr_it ?_ ?_
            · exact gr_ret _
            · refine gr_it ?_ ?_
              · exact gr_ret _
              · refine gr_it ?_ ?_
                · exact gr_ret _
                · refine gr_it ?_ ?_
                  · exact gr_ret _
                  · refine gr_it ?_ ?_
                    · exact gr_ret _
                    · refine gr_it ?_ ?_
                      · exact gr_ret _
                      · refine gr_it ?_ ?_
                        · exact gr_ret _
                        · refine gr_it ?_ ?_
                          · exact gr_ret _
                          · refine gr_it ?_ ?_
                            · exact gr_ret _
                            · refine gr_it ?_ ?_
                              · exact gr_ret _
                              · exact gr_ret _
def gB_X9_isWord_20 (x1 : Int) (rec_20 : Int → gM Int) (x2 : Int) : gM Int :=
  gbd (g_J0_length x1) (fun v22 => gcb (x2) (v22) ((v22 ≤ x2)) (gret (1)) (gget (-900) (fun v => gck (v = 7) (gget (-904) (fun v33 => gal 7 400 ((v33 + x2)) (fun v38 => gbd (g_J0_charAt x1 x2) (fun v41 => gcb (v38) (v41) ((v38 = v41)) (glet ((x2 + 1)) (fun x2_49 => rec_20 x2_49)) (gret (0)))))))))
set_option maxRecDepth 20000 in
theorem rB_X9_isWord_20 (x1 : Int) (frec_20 : Int → hf_M Int) (rec_20 : Int → gM Int) (hrec_20 : ∀ s : Int, gr (frec_20 s) (rec_20 s)) (x2 : Int) : gr (B_X9_isWord_20 9 x1 frec_20 x2) (gB_X9_isWord_20 x1 rec_20 x2) := by
  unfold B_X9_isWord_20 gB_X9_isWord_20
  refine gr_bd (r_J0_length _) (fun v22 => ?_)
  refine gr_cb ?_ ?_
  · exact gr_ret _
  · refine gr_gft (by decide) ?_
    refine gr_gf 9 (by decide) (by decide) rfl (by decide) rfl (fun v33 => ?_)
    refine gr_al 7 400 (by decide) (by decide) rfl (by decide) rfl (fun v38 => ?_)
    refine gr_bd (r_J0_charAt _ _) (fun v41 => ?_)
    refine gr_cb ?_ ?_
    · refine gr_let (fun x2_49 => ?_)
      exact hrec_20 _
    · exact gr_ret _
def g_X9_isWord_20 (x1 : Int) (x2 : Int) : gM Int :=
  gfx (fun rec s => gB_X9_isWord_20 x1 rec s) hf_N x2
set_option maxRecDepth 20000 in
theorem r_X9_isWord_20 (x1 : Int) (x2 : Int) : gr (f_X9_isWord_20 9 x1 x2) (g_X9_isWord_20 x1 x2) := by
  unfold f_X9_isWord_20 g_X9_isWord_20
  refine gr_fx (fun frec rec hrec s => ?_) _ _
  exact rB_X9_isWord_20 _ _ _ hrec _
def g_X9_isWord (x1 : Int) : gM Int :=
  gbd (g_J0_length x1) (fun v1 => gget (-902) (fun v5 => gget (-904) (fun v9 => gcb (v1) ((v5 - v9)) ((v1 = (v5 - v9))) (g_X9_isWord_20 x1 0) (gret (0)))))
set_option maxRecDepth 20000 in
theorem r_X9_isWord (x1 : Int) : gr (f_X9_isWord 9 x1) (g_X9_isWord x1) := by
  unfold f_X9_isWord g_X9_isWord
  refine gr_bd (r_J0_length _) (fun v1 => ?_)
  refine gr_gf 9 (by decide) (by decide) rfl (by decide) rfl (fun v5 => ?_)
  refine gr_gf 9 (by decide) (by decide) rfl (by decide) rfl (fun v9 => ?_)
  refine gr_cb ?_ ?_
  · exact r_X9_isWord_20 _ _
  · exact gr_ret _
def g_X9_readWord_54 (rec_32 : Int → gM Int) (x1 : Int) : gM Int :=
  glet ((x1 + 1)) (fun x1_54 => rec_32 x1_54)
set_option maxRecDepth 20000 in
theorem r_X9_readWord_54 (frec_32 : Int → hf_M Int) (rec_32 : Int → gM Int) (hrec_32 : ∀ s : Int, gr (frec_32 s) (rec_32 s)) (x1 : Int) : gr (f_X9_readWord_54 frec_32 9 x1) (g_X9_readWord_54 rec_32 x1) := by
  unfold f_X9_readWord_54 g_X9_readWord_54
  refine gr_let (fun x1_54 => ?_)
  exact hrec_32 _
def gB_X9_readWord_32 (rec_32 : Int → gM Int) (x1 : Int) : gM Int :=
  gcb (x1) (20) ((20 < x1)) (gret (0)) (gbd (g_X9_wordOf x1) (fun v40 => gbd (g_X9_isWord v40) (fun v43 => gcz (v43) ((v43 = 0)) (g_X9_readWord_54 rec_32 x1) (gput (-903) (x1) (g_X9_readWord_54 rec_32 x1)))))
set_option maxRecDepth 20000 in
theorem rB_X9_readWord_32 (frec_32 : Int → hf_M Int) (rec_32 : Int → gM Int) (hrec_32 : ∀ s : Int, gr (frec_32 s) (rec_32 s)) (x1 : Int) : gr (B_X9_readWord_32 9 frec_32 x1) (gB_X9_readWord_32 rec_32 x1) := by
  unfold B_X9_readWord_32 gB_X9_readWord_32
  refine gr_cb ?_ ?_
  · exact gr_ret _
  · refine gr_bd (r_X9_wordOf _) (fun v40 => ?_)
    refine gr_bd (gr_ob 9 (by decide) (by decide) rfl (r_X9_isWord _)) (fun v43 => ?_)
    refine gr_cz ?_ ?_
    · exact r_X9_readWord_54 frec_32 rec_32 hrec_32 _
    · refine gr_pf 9 (by decide) (by decide) rfl (by decide) (by decide) rfl rfl ?_
      exact r_X9_readWord_54 frec_32 rec_32 hrec_32 _
def g_X9_readWord_32 (x1 : Int) : gM Int :=
  gfx (fun rec s => gB_X9_readWord_32 rec s) hf_N x1
set_option maxRecDepth 20000 in
theorem r_X9_readWord_32 (x1 : Int) : gr (f_X9_readWord_32 9 x1) (g_X9_readWord_32 x1) := by
  unfold f_X9_readWord_32 g_X9_readWord_32
  refine gr_fx (fun frec rec hrec s => ?_) _ _
  exact rB_X9_readWord_32 _ _ hrec _
def gB_X9_readWord_0 (rec_0 : Unit → gM Int) : gM Int :=
  gget (-902) (fun v2 => gbd (g_X9_isLetterAt v2) (fun v5 => gcz (v5) ((v5 = 0)) (gput (-903) (1) (g_X9_readWord_32 6)) (gget (-902) (fun v13 => gput (-902) ((v13 + 1)) (rec_0 ())))))
set_option maxRecDepth 20000 in
theorem rB_X9_readWord_0 (frec_0 : Unit → hf_M Int) (rec_0 : Unit → gM Int) (hrec_0 : ∀ s : Unit, gr (frec_0 s) (rec_0 s)) : gr (B_X9_readWord_0 9 frec_0) (gB_X9_readWord_0 rec_0) := by
  unfold B_X9_readWord_0 gB_X9_readWord_0
  refine gr_gf 9 (by decide) (by decide) rfl (by decide) rfl (fun v2 => ?_)
  refine gr_bd (gr_ob 9 (by decide) (by decide) rfl (r_X9_isLetterAt _)) (fun v5 => ?_)
  refine gr_cz ?_ ?_
  · refine gr_pf 9 (by decide) (by decide) rfl (by decide) (by decide) rfl rfl ?_
    exact r_X9_readWord_32 _
  · refine gr_gf 9 (by decide) (by decide) rfl (by decide) rfl (fun v13 => ?_)
    refine gr_pf 9 (by decide) (by decide) rfl (by decide) (by decide) rfl rfl ?_
    exact hrec_0 _
def g_X9_readWord_0  : gM Int :=
  gfx (fun rec s => gB_X9_readWord_0 rec) hf_N ()
set_option maxRecDepth 20000 in
theorem r_X9_readWord_0  : gr (f_X9_readWord_0 9) (g_X9_readWord_0 ) := by
  unfold f_X9_readWord_0 g_X9_readWord_0
  refine gr_fx (fun frec rec hrec s => ?_) _ _
  exact rB_X9_readWord_0 _ _ hrec
def g_X9_readWord  : gM Int :=
  g_X9_readWord_0
set_option maxRecDepth 20000 in
theorem r_X9_readWord  : gr (f_X9_readWord 9) (g_X9_readWord ) := by
  unfold f_X9_readWord g_X9_readWord
  exact r_X9_readWord_0
def gB_X9_readNumber_5 (rec_5 : Unit → gM Int) : gM Int :=
  gget (-902) (fun v7 => gbd (g_X9_isDigitAt v7) (fun v10 => gcz (v10) ((v10 = 0)) (gret (0)) (gget (-905) (fun v21 => gget (-900) (fun v => gck (v = 7) (gget (-902) (fun v32 => gal 7 400 (v32) (fun v35 => gck ((hf_inI 1000) ∧ (hf_inI (((v21 * 10) + v35) - 48))) (glet ((min 1000 (((v21 * 10) + v35) - 48))) (fun v40 => gput (-905) (v40) (gget (-902) (fun v48 => gput (-902) ((v48 + 1)) (rec_5 ())))))))))))))
set_option maxRecDepth 20000 in
theorem rB_X9_readNumber_5 (frec_5 : Unit → hf_M Int) (rec_5 : Unit → gM Int) (hrec_5 : ∀ s : Unit, gr (frec_5 s) (rec_5 s)) : gr (B_X9_readNumber_5 9 frec_5) (gB_X9_readNumber_5 rec_5) := by
  unfold B_X9_readNumber_5 gB_X9_readNumber_5
  refine gr_gf 9 (by decide) (by decide) rfl (by decide) rfl (fun v7 => ?_)
  refine gr_bd (gr_ob 9 (by decide) (by decide) rfl (r_X9_isDigitAt _)) (fun v10 => ?_)
  refine gr_cz ?_ ?_
  · exact gr_ret _
  · refine gr_gf 9 (by decide) (by decide) rfl (by decide) rfl (fun v21 => ?_)
    refine gr_gft (by decide) ?_
    refine gr_gf 9 (by decide) (by decide) rfl (by decide) rfl (fun v32 => ?_)
    refine gr_al 7 400 (by decide) (by decide) rfl (by decide) rfl (fun v35 => ?_)
    refine gr_ck (fun _ => ?_)
    refine gr_let (fun v40 => ?_)
    refine gr_pf 9 (by decide) (by decide) rfl (by decide) (by decide) rfl rfl ?_
    refine gr_gf 9 (by decide) (by decide) rfl (by decide) rfl (fun v48 => ?_)
    refine gr_pf 9 (by decide) (by decide) rfl (by decide) (by decide) rfl rfl ?_
    exact hrec_5 _
def g_X9_readNumber_5  : gM Int :=
  gfx (fun rec s => gB_X9_readNumber_5 rec) hf_N ()
set_option maxRecDepth 20000 in
theorem r_X9_readNumber_5  : gr (f_X9_readNumber_5 9) (g_X9_readNumber_5 ) := by
  unfold f_X9_readNumber_5 g_X9_readNumber_5
  refine gr_fx (fun frec rec hrec s => ?_) _ _
  exact rB_X9_readNumber_5 _ _ hrec
def g_X9_readNumber  : gM Int :=
  gput (-903) (2) (g_X9_readNumber_5)
set_option maxRecDepth 20000 in
theorem r_X9_readNumber  : gr (f_X9_readNumber 9) (g_X9_readNumber ) := by
  unfold f_X9_readNumber g_X9_readNumber
  refine gr_pf 9 (by decide) (by decide) rfl (by decide) (by decide) rfl rfl ?_
  exact r_X9_readNumber_5
def g_X9_advance_52  : gM Int :=
  gget (-902) (fun v54 => gput (-904) (v54) (gput (-905) (0) (gget (-902) (fun v66 => gget (-901) (fun v70 => gcb (v66) (v70) ((v66 < v70)) (gget (-902) (fun v86 => gbd (g_X9_isDigitAt v86) (fun v89 => gcz (v89) ((v89 = 0)) (gget (-902) (fun v104 => gbd (g_X9_isLetterAt v104) (fun v107 => gcz (v107) ((v107 = 0)) (gbd (g_X9_readSign) (fun _ => gret (0))) (gbd (g_X9_readWord) (fun _ => gret (0)))))) (gbd (g_X9_readNumber) (fun _ => gret (0)))))) (gput (-903) (0) (gret (0))))))))
set_option maxRecDepth 20000 in
theorem r_X9_advance_52  : gr (f_X9_advance_52 9) (g_X9_advance_52 ) := by
  unfold f_X9_advance_52 g_X9_advance_52
  refine gr_gf 9 (by decide) (by decide) rfl (by decide) rfl (fun v54 => ?_)
  refine gr_pf 9 (by decide) (by decide) rfl (by decide) (by decide) rfl rfl ?_
  refine gr_pf 9 (by decide) (by decide) rfl (by decide) (by decide) rfl rfl ?_
  refine gr_gf 9 (by decide) (by decide) rfl (by decide) rfl (fun v66 => ?_)
  refine gr_gf 9 (by decide) (by decide) rfl (by decide) rfl (fun v70 => ?_)
  refine gr_cb ?_ ?_
  · refine gr_gf 9 (by decide) (by decide) rfl (by decide) rfl (fun v86 => ?_)
    refine gr_bd (gr_ob 9 (by decide) (by decide) rfl (r_X9_isDigitAt _)) (fun v89 => ?_)
    refine gr_cz ?_ ?_
    · refine gr_gf 9 (by decide) (by decide) rfl (by decide) rfl (fun v104 => ?_)
      refine gr_bd (gr_ob 9 (by decide) (by decide) rfl (r_X9_isLetterAt _)) (fun v107 => ?_)
      refine gr_cz ?_ ?_
      · refine gr_bd (gr_ob 9 (by decide) (by decide) rfl (r_X9_readSign)) (fun _ => ?_)
        exact gr_ret _
      · refine gr_bd (gr_ob 9 (by decide) (by decide) rfl (r_X9_readWord)) (fun _ => ?_)
        exact gr_ret _
    · refine gr_bd (gr_ob 9 (by decide) (by decide) rfl (r_X9_readNumber)) (fun _ => ?_)
      exact gr_ret _
  · refine gr_pf 9 (by decide) (by decide) rfl (by decide) (by decide) rfl rfl ?_
    exact gr_ret _
def g_X9_advance_39 (rec_0 : Unit → gM Int) : gM Int :=
  gget (-902) (fun v41 => gput (-902) ((v41 + 1)) (rec_0 ()))
set_option maxRecDepth 20000 in
theorem r_X9_advance_39 (frec_0 : Unit → hf_M Int) (rec_0 : Unit → gM Int) (hrec_0 : ∀ s : Unit, gr (frec_0 s) (rec_0 s)) : gr (f_X9_advance_39 frec_0 9) (g_X9_advance_39 rec_0) := by
  unfold f_X9_advance_39 g_X9_advance_39
  refine gr_gf 9 (by decide) (by decide) rfl (by decide) rfl (fun v41 => ?_)
  refine gr_pf 9 (by decide) (by decide) rfl (by decide) (by decide) rfl rfl ?_
  exact hrec_0 _
def gB_X9_advance_0 (rec_0 : Unit → gM Int) : gM Int :=
  gget (-902) (fun v1 => gget (-901) (fun v5 => gcb (v1) (v5) ((v5 ≤ v1)) (g_X9_advance_52) (gget (-900) (fun v => gck (v = 7) (gget (-902) (fun v16 => gal 7 400 (v16) (fun v19 => gcb (v19) (10) ((v19 = 10)) (g_X9_advance_39 rec_0) (gget (-900) (fun v => gck (v = 7) (gget (-902) (fun v30 => gal 7 400 (v30) (fun v33 => gcb (v33) (32) ((¬ (v33 = 32))) (g_X9_advance_52) (g_X9_advance_39 rec_0)))))))))))))
set_option maxRecDepth 20000 in
theorem rB_X9_advance_0 (frec_0 : Unit → hf_M Int) (rec_0 : Unit → gM Int) (hrec_0 : ∀ s : Unit, gr (frec_0 s) (rec_0 s)) : gr (B_X9_advance_0 9 frec_0) (gB_X9_advance_0 rec_0) := by
  unfold B_X9_advance_0 gB_X9_advance_0
  refine gr_gf 9 (by decide) (by decide) rfl (by decide) rfl (fun v1 => ?_)
  refine gr_gf 9 (by decide) (by decide) rfl (by decide) rfl (fun v5 => ?_)
  refine gr_cb ?_ ?_
  · exact r_X9_advance_52
  · refine gr_gft (by decide) ?_
    refine gr_gf 9 (by decide) (by decide) rfl (by decide) rfl (fun v16 => ?_)
    refine gr_al 7 400 (by decide) (by decide) rfl (by decide) rfl (fun v19 => ?_)
    refine gr_cb ?_ ?_
    · exact r_X9_advance_39 frec_0 rec_0 hrec_0
    · refine gr_gft (by decide) ?_
      refine gr_gf 9 (by decide) (by decide) rfl (by decide) rfl (fun v30 => ?_)
      refine gr_al 7 400 (by decide) (by decide) rfl (by decide) rfl (fun v33 => ?_)
      refine gr_cb ?_ ?_
      · exact r_X9_advance_52
      · exact r_X9_advance_39 frec_0 rec_0 hrec_0
def g_X9_advance_0  : gM Int :=
  gfx (fun rec s => gB_X9_advance_0 rec) hf_N ()
set_option maxRecDepth 20000 in
theorem r_X9_advance_0  : gr (f_X9_advance_0 9) (g_X9_advance_0 ) := by
  unfold f_X9_advance_0 g_X9_advance_0
  refine gr_fx (fun frec rec hrec s => ?_) _ _
  exact rB_X9_advance_0 _ _ hrec
def g_X9_advance  : gM Int :=
  g_X9_advance_0
set_option maxRecDepth 20000 in
theorem r_X9_advance  : gr (f_X9_advance 9) (g_X9_advance ) := by
  unfold f_X9_advance g_X9_advance
  exact r_X9_advance_0
def g_X5_startExpression  : gM Int :=
  gput (-803) (0) (gput (-807) (0) (gas 17 9 (0) (0) (gput (-809) (1) (gput (-806) (2) (gret (0))))))
set_option maxRecDepth 20000 in
theorem r_X5_startExpression  : gr (f_X5_startExpression 8) (g_X5_startExpression ) := by
  unfold f_X5_startExpression g_X5_startExpression
  refine gr_pf 8 (by decide) (by decide) rfl (by decide) (by decide) rfl rfl ?_
  refine gr_pf 8 (by decide) (by decide) rfl (by decide) (by decide) rfl rfl ?_
  refine gr_gfp 8 17 (by decide) (by decide) rfl rfl (by decide) ?_
  refine gr_as 17 9 (by decide) (by decide) rfl (by decide) rfl rfl ?_
  refine gr_pf 8 (by decide) (by decide) rfl (by decide) (by decide) rfl rfl ?_
  refine gr_pf 8 (by decide) (by decide) rfl (by decide) (by decide) rfl rfl ?_
  exact gr_ret _
def g_X5_startDeed (x1 : Int) : gM Int :=
  gput (-810) (0) (gget (-801) (fun v6 => gck (v6 = 18 ∨ v6 = 23) (gget (-801) (fun v13 => gck (v13 = 18 ∨ v13 = 23) (gget (-(100 * v13 + 0)) (fun v16 => gget (-805) (fun v20 => gas (v6 + 2) 12 (v16) (v20) (gcb (x1) (7) ((¬ (x1 = 7))) (gget (-801) (fun v39 => gck (v39 = 18 ∨ v39 = 23) (gget (-801) (fun v46 => gck (v46 = 18 ∨ v46 = 23) (gget (-(100 * v46 + 0)) (fun v49 => gas (v39 + 1) 12 (v49) (3) (gbd (g_X5_startExpression) (fun _ => gret (0))))))))) (gput (-806) (1) (gret (0)))))))))))
set_option maxRecDepth 20000 in
theorem r_X5_startDeed (x1 : Int) : gr (f_X5_startDeed 8 x1) (g_X5_startDeed x1) := by
  unfold f_X5_startDeed g_X5_startDeed
  refine gr_pf 8 (by decide) (by decide) rfl (by decide) (by decide) rfl rfl ?_
  refine gr_gf 8 (by decide) (by decide) rfl (by decide) rfl (fun v6 => ?_)
  refine gr_gfpp 2 (by decide) (by decide) (fun hp => ?_)
  refine gr_gf 8 (by decide) (by decide) rfl (by decide) rfl (fun v13 => ?_)
  refine gr_gfps (by decide) rfl (fun hp v16 => ?_)
  refine gr_gf 8 (by decide) (by decide) rfl (by decide) rfl (fun v20 => ?_)
  refine gr_asp (by decide) (by decide) rfl rfl (by assumption) ?_
  refine gr_cb ?_ ?_
  · refine gr_gf 8 (by decide) (by decide) rfl (by decide) rfl (fun v39 => ?_)
    refine gr_gfpp 1 (by decide) (by decide) (fun hp => ?_)
    refine gr_gf 8 (by decide) (by decide) rfl (by decide) rfl (fun v46 => ?_)
    refine gr_gfps (by decide) rfl (fun hp v49 => ?_)
    refine gr_asp (by decide) (by decide) rfl rfl (by assumption) ?_
    refine gr_bd (gr_ob 8 (by decide) (by decide) rfl (r_X5_startExpression)) (fun _ => ?_)
    exact gr_ret _
  · refine gr_pf 8 (by decide) (by decide) rfl (by decide) (by decide) rfl rfl ?_
    exact gr_ret _
def g_X5_takeAtLine_26 (x1 : Int) : gM Int :=
  gget (-801) (fun v27 => gck (v27 = 18 ∨ v27 = 23) (gget (-(100 * v27 + 0)) (fun v30 => gcb (v30) (12) ((v30 < 12)) (gcb (x1) (6) ((¬ (x1 = 6))) (gbd (g_X5_startDeed x1) (fun _ => gret (0))) (gput (-810) (1) (gbd (g_X5_startExpression) (fun _ => gret (0))))) (gret (2)))))
set_option maxRecDepth 20000 in
theorem r_X5_takeAtLine_26 (x1 : Int) : gr (f_X5_takeAtLine_26 8 x1) (g_X5_takeAtLine_26 x1) := by
  unfold f_X5_takeAtLine_26 g_X5_takeAtLine_26
  refine gr_gf 8 (by decide) (by decide) rfl (by decide) rfl (fun v27 => ?_)
  refine gr_gfps (by decide) rfl (fun hp v30 => ?_)
  refine gr_cb ?_ ?_
  · refine gr_cb ?_ ?_
    · refine gr_bd (gr_ob 8 (by decide) (by decide) rfl (r_X5_startDeed _)) (fun _ => ?_)
      exact gr_ret _
    · refine gr_pf 8 (by decide) (by decide) rfl (by decide) (by decide) rfl rfl ?_
      refine gr_bd (gr_ob 8 (by decide) (by decide) rfl (r_X5_startExpression)) (fun _ => ?_)
      exact gr_ret _
  · exact gr_ret _
def g_X5_takeAtLine (x1 : Int) : gM Int :=
  gcz (x1) ((¬ (x1 = 0))) (gcb (x1) (6) ((x1 = 6)) (g_X5_takeAtLine_26 x1) (gcb (x1) (7) ((x1 = 7)) (g_X5_takeAtLine_26 x1) (gcb (x1) (8) ((x1 = 8)) (g_X5_takeAtLine_26 x1) (gret (1))))) (gret (0))
set_option maxRecDepth 20000 in
theorem r_X5_takeAtLine (x1 : Int) : gr (f_X5_takeAtLine 8 x1) (g_X5_takeAtLine x1) := by
  unfold f_X5_takeAtLine g_X5_takeAtLine
  refine gr_cz ?_ ?_
  · refine gr_cb ?_ ?_
    · exact r_X5_takeAtLine_26 _
    · refine gr_cb ?_ ?_
      · exact r_X5_takeAtLine_26 _
      · refine gr_cb ?_ ?_
        · exact r_X5_takeAtLine_26 _
        · exact gr_ret _
  · exact gr_ret _
def g_X5_takeKind (x1 : Int) : gM Int :=
  gcb (x1) (2) ((x1 = 2)) (gget (-905) (fun v11 => gcb (v11) (3) ((v11 < 3)) (gget (-801) (fun v21 => gck (v21 = 18 ∨ v21 = 23) (gget (-801) (fun v28 => gck (v28 = 18 ∨ v28 = 23) (gget (-(100 * v28 + 0)) (fun v31 => gget (-905) (fun v38 => gas (v21 + 1) 12 (v31) (v38) (gbd (g_X5_startExpression) (fun _ => gret (0)))))))))) (gret (2)))) (gret (1))
set_option maxRecDepth 20000 in
theorem r_X5_takeKind (x1 : Int) : gr (f_X5_takeKind 8 x1) (g_X5_takeKind x1) := by
  unfold f_X5_takeKind g_X5_takeKind
  refine gr_cb ?_ ?_
  · refine gr_gfp 8 9 (by decide) (by decide) rfl rfl (by decide) ?_
    refine gr_gf 9 (by decide) (by decide) rfl (by decide) rfl (fun v11 => ?_)
    refine gr_cb ?_ ?_
    · refine gr_gf 8 (by decide) (by decide) rfl (by decide) rfl (fun v21 => ?_)
      refine gr_gfpp 1 (by decide) (by decide) (fun hp => ?_)
      refine gr_gf 8 (by decide) (by decide) rfl (by decide) rfl (fun v28 => ?_)
      refine gr_gfps (by decide) rfl (fun hp v31 => ?_)
      refine gr_gfp 8 9 (by decide) (by decide) rfl rfl (by decide) ?_
      refine gr_gf 9 (by decide) (by decide) rfl (by decide) rfl (fun v38 => ?_)
      refine gr_asp (by decide) (by decide) rfl rfl (by assumption) ?_
      refine gr_bd (gr_ob 8 (by decide) (by decide) rfl (r_X5_startExpression)) (fun _ => ?_)
      exact gr_ret _
    · exact gr_ret _
  · exact gr_ret _
def g_X5_write (x1 : Int) : gM Int :=
  gget (-805) (fun v1 => gcb (v1) (64) ((64 ≤ v1)) (gret (0)) (gget (-801) (fun v10 => gck (v10 = 18 ∨ v10 = 23) (gget (-805) (fun v17 => gas (v10 + 4) 64 (v17) (x1) (gget (-805) (fun v24 => gput (-805) ((v24 + 1)) (gret (0)))))))))
set_option maxRecDepth 20000 in
theorem r_X5_write (x1 : Int) : gr (f_X5_write 8 x1) (g_X5_write x1) := by
  unfold f_X5_write g_X5_write
  refine gr_gf 8 (by decide) (by decide) rfl (by decide) rfl (fun v1 => ?_)
  refine gr_cb ?_ ?_
  · exact gr_ret _
  · refine gr_gf 8 (by decide) (by decide) rfl (by decide) rfl (fun v10 => ?_)
    refine gr_gfpp 4 (by decide) (by decide) (fun hp => ?_)
    refine gr_gf 8 (by decide) (by decide) rfl (by decide) rfl (fun v17 => ?_)
    refine gr_asp (by decide) (by decide) rfl rfl (by assumption) ?_
    refine gr_gf 8 (by decide) (by decide) rfl (by decide) rfl (fun v24 => ?_)
    refine gr_pf 8 (by decide) (by decide) rfl (by decide) (by decide) rfl rfl ?_
    exact gr_ret _
def g_X5_takeOperand_102 (s1 : Int) : gM Int :=
  gbd (g_X5_write s1) (fun _ => gput (-806) (3) (gret (0)))
set_option maxRecDepth 20000 in
theorem r_X5_takeOperand_102 (s1 : Int) : gr (f_X5_takeOperand_102 8 8 s1) (g_X5_takeOperand_102 s1) := by
  unfold f_X5_takeOperand_102 g_X5_takeOperand_102
  refine gr_bd (gr_ob 8 (by decide) (by decide) rfl (r_X5_write _)) (fun _ => ?_)
  refine gr_pf 8 (by decide) (by decide) rfl (by decide) (by decide) rfl rfl ?_
  exact gr_ret _
def g_X5_takeOperand_47 (x1 : Int) : gM Int :=
  gget (-804) (fun v48 => gcb (v48) (64) ((64 ≤ v48)) (gret (2)) (gget (-905) (fun v60 => gcb (v60) (1000) ((v60 < 1000)) (gget (-804) (fun v73 => gput (-804) ((v73 + 1)) (gcb (x1) (2) ((¬ (x1 = 2))) (g_X5_takeOperand_102 (1000 + x1)) (gget (-905) (fun v91 => g_X5_takeOperand_102 v91))))) (gret (2)))))
set_option maxRecDepth 20000 in
theorem r_X5_takeOperand_47 (x1 : Int) : gr (f_X5_takeOperand_47 8 x1) (g_X5_takeOperand_47 x1) := by
  unfold f_X5_takeOperand_47 g_X5_takeOperand_47
  refine gr_gf 8 (by decide) (by decide) rfl (by decide) rfl (fun v48 => ?_)
  refine gr_cb ?_ ?_
  · exact gr_ret _
  · refine gr_gfp 8 9 (by decide) (by decide) rfl rfl (by decide) ?_
    refine gr_gf 9 (by decide) (by decide) rfl (by decide) rfl (fun v60 => ?_)
    refine gr_cb ?_ ?_
    · refine gr_gf 8 (by decide) (by decide) rfl (by decide) rfl (fun v73 => ?_)
      refine gr_pf 8 (by decide) (by decide) rfl (by decide) (by decide) rfl rfl ?_
      refine gr_cb ?_ ?_
      · exact r_X5_takeOperand_102 _
      · refine gr_gfp 8 9 (by decide) (by decide) rfl rfl (by decide) ?_
        refine gr_gf 9 (by decide) (by decide) rfl (by decide) rfl (fun v91 => ?_)
        exact r_X5_takeOperand_102 _
    · exact gr_ret _
def g_X9_isName (x0 : Int) : gM Int :=
  gcb (x0) (12) ((x0 < 12)) (gret (0)) (gcb (x0) (20) ((20 < x0)) (gret (0)) (gret (1)))
set_option maxRecDepth 20000 in
theorem r_X9_isName (x0 : Int) : gr (f_X9_isName x0) (g_X9_isName x0) := by
  unfold f_X9_isName g_X9_isName
  refine gr_cb ?_ ?_
  · exact gr_ret _
  · refine gr_cb ?_ ?_
    · exact gr_ret _
    · exact gr_ret _
def g_X5_hold (x1 : Int) : gM Int :=
  gget (-803) (fun v1 => gcb (v1) (72) ((72 ≤ v1)) (gret (0)) (gget (-803) (fun v17 => gas 16 72 (v17) (x1) (gget (-803) (fun v24 => gput (-803) ((v24 + 1)) (gret (0)))))))
set_option maxRecDepth 20000 in
theorem r_X5_hold (x1 : Int) : gr (f_X5_hold 8 x1) (g_X5_hold x1) := by
  unfold f_X5_hold g_X5_hold
  refine gr_gf 8 (by decide) (by decide) rfl (by decide) rfl (fun v1 => ?_)
  refine gr_gfp 8 16 (by decide) (by decide) rfl rfl (by decide) ?_
  refine gr_an 16 72 (by decide) (by decide) rfl rfl ?_
  refine gr_cb ?_ ?_
  · exact gr_ret _
  · refine gr_gfp 8 16 (by decide) (by decide) rfl rfl (by decide) ?_
    refine gr_gf 8 (by decide) (by decide) rfl (by decide) rfl (fun v17 => ?_)
    refine gr_as 16 72 (by decide) (by decide) rfl (by decide) rfl rfl ?_
    refine gr_gf 8 (by decide) (by decide) rfl (by decide) rfl (fun v24 => ?_)
    refine gr_pf 8 (by decide) (by decide) rfl (by decide) (by decide) rfl rfl ?_
    exact gr_ret _
def g_X9_isComparison (x0 : Int) : gM Int :=
  gcb (x0) (21) ((x0 < 21)) (gret (0)) (gcb (x0) (26) ((26 < x0)) (gret (0)) (gret (1)))
set_option maxRecDepth 20000 in
theorem r_X9_isComparison (x0 : Int) : gr (f_X9_isComparison x0) (g_X9_isComparison x0) := by
  unfold f_X9_isComparison g_X9_isComparison
  refine gr_cb ?_ ?_
  · exact gr_ret _
  · refine gr_cb ?_ ?_
    · exact gr_ret _
    · exact gr_ret _
def g_X5_takeOperator_104  : gM Int :=
  gput (-806) (2) (gret (0))
set_option maxRecDepth 20000 in
theorem r_X5_takeOperator_104  : gr (f_X5_takeOperator_104 8) (g_X5_takeOperator_104 ) := by
  unfold f_X5_takeOperator_104 g_X5_takeOperator_104
  refine gr_pf 8 (by decide) (by decide) rfl (by decide) (by decide) rfl rfl ?_
  exact gr_ret _
def g_X5_takeOperator_64 (x1 : Int) (s1 : Int) : gM Int :=
  gck ((s1 = 0) ∨ (s1 = 1)) (gput (-809) (s1) (gbd (g_X9_isComparison x1) (fun v68 => gcz (v68) ((v68 = 0)) (gget (-809) (fun v88 => gcz (v88) ((v88 = 0)) (g_X5_takeOperator_104) (gget (-807) (fun v99 => gas 17 9 (v99) (0) (g_X5_takeOperator_104))))) (gget (-807) (fun v79 => gas 17 9 (v79) (1) (g_X5_takeOperator_104))))))
set_option maxRecDepth 20000 in
theorem r_X5_takeOperator_64 (x1 : Int) (s1 : Int) : gr (f_X5_takeOperator_64 8 x1 8 s1) (g_X5_takeOperator_64 x1 s1) := by
  unfold f_X5_takeOperator_64 g_X5_takeOperator_64
  refine gr_ck (fun _ => ?_)
  refine gr_pf 8 (by decide) (by decide) rfl (by decide) (by decide) rfl rfl ?_
  refine gr_bd (r_X9_isComparison _) (fun v68 => ?_)
  refine gr_cz ?_ ?_
  · refine gr_gf 8 (by decide) (by decide) rfl (by decide) rfl (fun v88 => ?_)
    refine gr_cz ?_ ?_
    · exact r_X5_takeOperator_104
    · refine gr_gfp 8 17 (by decide) (by decide) rfl rfl (by decide) ?_
      refine gr_gf 8 (by decide) (by decide) rfl (by decide) rfl (fun v99 => ?_)
      refine gr_as 17 9 (by decide) (by decide) rfl (by decide) rfl rfl ?_
      exact r_X5_takeOperator_104
  · refine gr_gfp 8 17 (by decide) (by decide) rfl rfl (by decide) ?_
    refine gr_gf 8 (by decide) (by decide) rfl (by decide) rfl (fun v79 => ?_)
    refine gr_as 17 9 (by decide) (by decide) rfl (by decide) rfl rfl ?_
    exact r_X5_takeOperator_104
def g_X5_takeOperator_35 (x1 : Int) : gM Int :=
  gbd (g_X5_hold x1) (fun _ => gcb (x1) (9) ((x1 = 9)) (g_X5_takeOperator_64 x1 1) (gcb (x1) (11) ((x1 = 11)) (g_X5_takeOperator_64 x1 1) (gcb (x1) (10) ((¬ (x1 = 10))) (g_X5_takeOperator_64 x1 0) (g_X5_takeOperator_64 x1 1))))
set_option maxRecDepth 20000 in
theorem r_X5_takeOperator_35 (x1 : Int) : gr (f_X5_takeOperator_35 8 x1) (g_X5_takeOperator_35 x1) := by
  unfold f_X5_takeOperator_35 g_X5_takeOperator_35
  refine gr_bd (gr_ob 8 (by decide) (by decide) rfl (r_X5_hold _)) (fun _ => ?_)
  refine gr_cb ?_ ?_
  · exact r_X5_takeOperator_64 _ _
  · refine gr_cb ?_ ?_
    · exact r_X5_takeOperator_64 _ _
    · refine gr_cb ?_ ?_
      · exact r_X5_takeOperator_64 _ _
      · exact r_X5_takeOperator_64 _ _
def g_X9_bindingOf (x0 : Int) : gM Int :=
  gcb (x0) (10) ((¬ (x0 = 10))) (gcb (x0) (11) ((¬ (x0 = 11))) (gcb (x0) (9) ((¬ (x0 = 9))) (gbd (g_X9_isComparison x0) (fun v25 => gcz (v25) ((v25 = 0)) (gcb (x0) (27) ((x0 = 27)) (gret (5)) (gcb (x0) (28) ((¬ (x0 = 28))) (gcb (x0) (29) ((x0 = 29)) (gret (6)) (gcb (x0) (30) ((¬ (x0 = 30))) (gret (0)) (gret (6)))) (gret (5)))) (gret (4)))) (gret (3))) (gret (2))) (gret (1))
set_option maxRecDepth 20000 in
theorem r_X9_bindingOf (x0 : Int) : gr (f_X9_bindingOf x0) (g_X9_bindingOf x0) := by
  unfold f_X9_bindingOf g_X9_bindingOf
  refine gr_cb ?_ ?_
  · refine gr_cb ?_ ?_
    · refine gr_cb ?_ ?_
      · refine gr_bd (r_X9_isComparison _) (fun v25 => ?_)
        refine gr_cz ?_ ?_
        · refine gr_cb ?_ ?_
          · exact gr_ret _
          · refine gr_cb ?_ ?_
            · refine gr_cb ?_ ?_
              · exact gr_ret _
              · refine gr_cb ?_ ?_
                · exact gr_ret _
                · exact gr_ret _
            · exact gr_ret _
        · exact gr_ret _
      · exact gr_ret _
    · exact gr_ret _
  · exact gr_ret _
def gB_X5_release_0 (x1 : Int) (rec_0 : Unit → gM Int) : gM Int :=
  gget (-803) (fun v1 => gcz (v1) ((v1 ≤ 0)) (gret (0)) (gget (-803) (fun v12 => gal 16 72 ((v12 - 1)) (fun v17 => gbd (g_X9_bindingOf v17) (fun v18 => gcb (v18) (x1) ((v18 < x1)) (gret (0)) (gget (-803) (fun v27 => gput (-803) ((v27 - 1)) (gget (-803) (fun v44 => gal 16 72 (v44) (fun v47 => gbd (g_X5_write (1000 + v47)) (fun _ => rec_0 ())))))))))))
set_option maxRecDepth 20000 in
theorem rB_X5_release_0 (x1 : Int) (frec_0 : Unit → hf_M Int) (rec_0 : Unit → gM Int) (hrec_0 : ∀ s : Unit, gr (frec_0 s) (rec_0 s)) : gr (B_X5_release_0 8 x1 frec_0) (gB_X5_release_0 x1 rec_0) := by
  unfold B_X5_release_0 gB_X5_release_0
  refine gr_gf 8 (by decide) (by decide) rfl (by decide) rfl (fun v1 => ?_)
  refine gr_cz ?_ ?_
  · exact gr_ret _
  · refine gr_gfp 8 16 (by decide) (by decide) rfl rfl (by decide) ?_
    refine gr_gf 8 (by decide) (by decide) rfl (by decide) rfl (fun v12 => ?_)
    refine gr_al 16 72 (by decide) (by decide) rfl (by decide) rfl (fun v17 => ?_)
    refine gr_bd (r_X9_bindingOf _) (fun v18 => ?_)
    refine gr_cb ?_ ?_
    · exact gr_ret _
    · refine gr_gf 8 (by decide) (by decide) rfl (by decide) rfl (fun v27 => ?_)
      refine gr_pf 8 (by decide) (by decide) rfl (by decide) (by decide) rfl rfl ?_
      refine gr_gfp 8 16 (by decide) (by decide) rfl rfl (by decide) ?_
      refine gr_gf 8 (by decide) (by decide) rfl (by decide) rfl (fun v44 => ?_)
      refine gr_al 16 72 (by decide) (by decide) rfl (by decide) rfl (fun v47 => ?_)
      refine gr_bd (gr_ob 8 (by decide) (by decide) rfl (r_X5_write _)) (fun _ => ?_)
      exact hrec_0 _
def g_X5_release_0 (x1 : Int) : gM Int :=
  gfx (fun rec s => gB_X5_release_0 x1 rec) hf_N ()
set_option maxRecDepth 20000 in
theorem r_X5_release_0 (x1 : Int) : gr (f_X5_release_0 8 x1) (g_X5_release_0 x1) := by
  unfold f_X5_release_0 g_X5_release_0
  refine gr_fx (fun frec rec hrec s => ?_) _ _
  exact rB_X5_release_0 _ _ _ hrec
def g_X5_release (x1 : Int) : gM Int :=
  g_X5_release_0 x1
set_option maxRecDepth 20000 in
theorem r_X5_release (x1 : Int) : gr (f_X5_release 8 x1) (g_X5_release x1) := by
  unfold f_X5_release g_X5_release
  exact r_X5_release_0 _
def g_X5_takeOperator (x1 : Int) : gM Int :=
  gget (-804) (fun v1 => gcb (v1) (64) ((v1 < 64)) (gget (-804) (fun v13 => gput (-804) ((v13 + 1)) (gcb (x1) (9) ((x1 = 9)) (g_X5_takeOperator_35 x1) (gbd (g_X9_bindingOf x1) (fun v29 => gbd (g_X5_release v29) (fun _ => g_X5_takeOperator_35 x1)))))) (gret (2)))
set_option maxRecDepth 20000 in
theorem r_X5_takeOperator (x1 : Int) : gr (f_X5_takeOperator 8 x1) (g_X5_takeOperator x1) := by
  unfold f_X5_takeOperator g_X5_takeOperator
  refine gr_gf 8 (by decide) (by decide) rfl (by decide) rfl (fun v1 => ?_)
  refine gr_cb ?_ ?_
  · refine gr_gf 8 (by decide) (by decide) rfl (by decide) rfl (fun v13 => ?_)
    refine gr_pf 8 (by decide) (by decide) rfl (by decide) (by decide) rfl rfl ?_
    refine gr_cb ?_ ?_
    · exact r_X5_takeOperator_35 _
    · refine gr_bd (r_X9_bindingOf _) (fun v29 => ?_)
      refine gr_bd (gr_ob 8 (by decide) (by decide) rfl (r_X5_release _)) (fun _ => ?_)
      exact r_X5_takeOperator_35 _
  · exact gr_ret _
def g_X5_takeOpen  : gM Int :=
  gget (-807) (fun v1 => gcb (v1) (8) ((v1 < 8)) (gget (-807) (fun v13 => gput (-807) ((v13 + 1)) (gget (-807) (fun v26 => gas 17 9 (v26) (0) (gput (-809) (1) (gbd (g_X5_hold 3) (fun _ => gret (0)))))))) (gret (2)))
set_option maxRecDepth 20000 in
theorem r_X5_takeOpen  : gr (f_X5_takeOpen 8) (g_X5_takeOpen ) := by
  unfold f_X5_takeOpen g_X5_takeOpen
  refine gr_gf 8 (by decide) (by decide) rfl (by decide) rfl (fun v1 => ?_)
  refine gr_cb ?_ ?_
  · refine gr_gf 8 (by decide) (by decide) rfl (by decide) rfl (fun v13 => ?_)
    refine gr_pf 8 (by decide) (by decide) rfl (by decide) (by decide) rfl rfl ?_
    refine gr_gfp 8 17 (by decide) (by decide) rfl rfl (by decide) ?_
    refine gr_gf 8 (by decide) (by decide) rfl (by decide) rfl (fun v26 => ?_)
    refine gr_as 17 9 (by decide) (by decide) rfl (by decide) rfl rfl ?_
    refine gr_pf 8 (by decide) (by decide) rfl (by decide) (by decide) rfl rfl ?_
    refine gr_bd (gr_ob 8 (by decide) (by decide) rfl (r_X5_hold _)) (fun _ => ?_)
    exact gr_ret _
  · exact gr_ret _
def g_X5_takeOperand (x1 : Int) : gM Int :=
  gcb (x1) (3) ((¬ (x1 = 3))) (gcb (x1) (9) ((¬ (x1 = 9))) (gcb (x1) (2) ((x1 = 2)) (g_X5_takeOperand_47 x1) (gbd (g_X9_isName x1) (fun v39 => gcz (v39) ((¬ (v39 = 0))) (g_X5_takeOperand_47 x1) (gret (1))))) (gget (-809) (fun v17 => gcz (v17) ((v17 = 0)) (gret (1)) (gbd (g_X5_takeOperator x1) (fun v25 => gret (v25)))))) (gbd (g_X5_takeOpen) (fun v6 => gret (v6)))
set_option maxRecDepth 20000 in
theorem r_X5_takeOperand (x1 : Int) : gr (f_X5_takeOperand 8 x1) (g_X5_takeOperand x1) := by
  unfold f_X5_takeOperand g_X5_takeOperand
  refine gr_cb ?_ ?_
  · refine gr_cb ?_ ?_
    · refine gr_cb ?_ ?_
      · exact r_X5_takeOperand_47 _
      · refine gr_bd (r_X9_isName _) (fun v39 => ?_)
        refine gr_cz ?_ ?_
        · exact r_X5_takeOperand_47 _
        · exact gr_ret _
    · refine gr_gf 8 (by decide) (by decide) rfl (by decide) rfl (fun v17 => ?_)
      refine gr_cz ?_ ?_
      · exact gr_ret _
      · refine gr_bd (gr_ob 8 (by decide) (by decide) rfl (r_X5_takeOperator _)) (fun v25 => ?_)
        exact gr_ret _
  · refine gr_bd (gr_ob 8 (by decide) (by decide) rfl (r_X5_takeOpen)) (fun v6 => ?_)
    exact gr_ret _
def g_X5_takeBehindOperand_90 (x1 : Int) : gM Int :=
  gget (-810) (fun v91 => gcz (v91) ((¬ (v91 = 0))) (gret (1)) (gcb (x1) (5) ((¬ (x1 = 5))) (gret (1)) (gbd (g_X5_release 1) (fun _ => gget (-801) (fun v108 => gck (v108 = 18 ∨ v108 = 23) (gget (-801) (fun v115 => gck (v115 = 18 ∨ v115 = 23) (gget (-(100 * v115 + 0)) (fun v118 => gget (-805) (fun v122 => gas (v108 + 3) 12 (v118) (v122) (gget (-801) (fun v127 => gck (v127 = 18 ∨ v127 = 23) (gget (-(100 * v127 + 0)) (fun v131 => gck (v127 = 18 ∨ v127 = 23) (gput (-(100 * v127 + 0)) ((v131 + 1)) (gput (-806) (0) (gret (0))))))))))))))))))
set_option maxRecDepth 20000 in
theorem r_X5_takeBehindOperand_90 (x1 : Int) : gr (f_X5_takeBehindOperand_90 8 x1) (g_X5_takeBehindOperand_90 x1) := by
  unfold f_X5_takeBehindOperand_90 g_X5_takeBehindOperand_90
  refine gr_gf 8 (by decide) (by decide) rfl (by decide) rfl (fun v91 => ?_)
  refine gr_cz ?_ ?_
  · exact gr_ret _
  · refine gr_cb ?_ ?_
    · exact gr_ret _
    · refine gr_bd (gr_ob 8 (by decide) (by decide) rfl (r_X5_release _)) (fun _ => ?_)
      refine gr_gf 8 (by decide) (by decide) rfl (by decide) rfl (fun v108 => ?_)
      refine gr_gfpp 3 (by decide) (by decide) (fun hp => ?_)
      refine gr_gf 8 (by decide) (by decide) rfl (by decide) rfl (fun v115 => ?_)
      refine gr_gfps (by decide) rfl (fun hp v118 => ?_)
      refine gr_gf 8 (by decide) (by decide) rfl (by decide) rfl (fun v122 => ?_)
      refine gr_asp (by decide) (by decide) rfl rfl (by assumption) ?_
      refine gr_gf 8 (by decide) (by decide) rfl (by decide) rfl (fun v127 => ?_)
      refine gr_gfps (by decide) rfl (fun hp v131 => ?_)
      refine gr_pfps (by decide) rfl (fun hp => ?_)
      refine gr_pf 8 (by decide) (by decide) rfl (by decide) (by decide) rfl rfl ?_
      exact gr_ret _
def g_X5_takeBehindOperand_78 (x1 : Int) : gM Int :=
  gbd (g_X5_release 1) (fun _ => gbd (g_X5_startDeed x1) (fun _ => gret (0)))
set_option maxRecDepth 20000 in
theorem r_X5_takeBehindOperand_78 (x1 : Int) : gr (f_X5_takeBehindOperand_78 8 x1) (g_X5_takeBehindOperand_78 x1) := by
  unfold f_X5_takeBehindOperand_78 g_X5_takeBehindOperand_78
  refine gr_bd (gr_ob 8 (by decide) (by decide) rfl (r_X5_release _)) (fun _ => ?_)
  refine gr_bd (gr_ob 8 (by decide) (by decide) rfl (r_X5_startDeed _)) (fun _ => ?_)
  exact gr_ret _
def g_X5_takeBehindOperand_50 (x1 : Int) : gM Int :=
  gget (-807) (fun v51 => gcz (v51) ((v51 ≤ 0)) (gget (-810) (fun v60 => gcz (v60) ((v60 = 0)) (g_X5_takeBehindOperand_90 x1) (gcb (x1) (7) ((x1 = 7)) (g_X5_takeBehindOperand_78 x1) (gcb (x1) (8) ((¬ (x1 = 8))) (g_X5_takeBehindOperand_90 x1) (g_X5_takeBehindOperand_78 x1))))) (gret (1)))
set_option maxRecDepth 20000 in
theorem r_X5_takeBehindOperand_50 (x1 : Int) : gr (f_X5_takeBehindOperand_50 8 x1) (g_X5_takeBehindOperand_50 x1) := by
  unfold f_X5_takeBehindOperand_50 g_X5_takeBehindOperand_50
  refine gr_gf 8 (by decide) (by decide) rfl (by decide) rfl (fun v51 => ?_)
  refine gr_cz ?_ ?_
  · refine gr_gf 8 (by decide) (by decide) rfl (by decide) rfl (fun v60 => ?_)
    refine gr_cz ?_ ?_
    · exact r_X5_takeBehindOperand_90 _
    · refine gr_cb ?_ ?_
      · exact r_X5_takeBehindOperand_78 _
      · refine gr_cb ?_ ?_
        · exact r_X5_takeBehindOperand_90 _
        · exact r_X5_takeBehindOperand_78 _
  · exact gr_ret _
def g_X5_takeBehindOperand_31 (x1 : Int) : gM Int :=
  gbd (g_X9_bindingOf x1) (fun v32 => gcz (v32) ((v32 ≤ 0)) (g_X5_takeBehindOperand_50 x1) (gcb (x1) (9) ((x1 = 9)) (g_X5_takeBehindOperand_50 x1) (gbd (g_X5_takeOperator x1) (fun v46 => gret (v46)))))
set_option maxRecDepth 20000 in
theorem r_X5_takeBehindOperand_31 (x1 : Int) : gr (f_X5_takeBehindOperand_31 8 x1) (g_X5_takeBehindOperand_31 x1) := by
  unfold f_X5_takeBehindOperand_31 g_X5_takeBehindOperand_31
  refine gr_bd (r_X9_bindingOf _) (fun v32 => ?_)
  refine gr_cz ?_ ?_
  · exact r_X5_takeBehindOperand_50 _
  · refine gr_cb ?_ ?_
    · exact r_X5_takeBehindOperand_50 _
    · refine gr_bd (gr_ob 8 (by decide) (by decide) rfl (r_X5_takeOperator _)) (fun v46 => ?_)
      exact gr_ret _
def g_X5_takeClose  : gM Int :=
  gget (-807) (fun v1 => gcz (v1) ((¬ (v1 = 0))) (gbd (g_X5_release 1) (fun _ => gget (-803) (fun v16 => gput (-803) ((v16 - 1)) (gget (-807) (fun v26 => gput (-807) ((v26 - 1)) (gret (0))))))) (gret (1)))
set_option maxRecDepth 20000 in
theorem r_X5_takeClose  : gr (f_X5_takeClose 8) (g_X5_takeClose ) := by
  unfold f_X5_takeClose g_X5_takeClose
  refine gr_gf 8 (by decide) (by decide) rfl (by decide) rfl (fun v1 => ?_)
  refine gr_cz ?_ ?_
  · refine gr_bd (gr_ob 8 (by decide) (by decide) rfl (r_X5_release _)) (fun _ => ?_)
    refine gr_gf 8 (by decide) (by decide) rfl (by decide) rfl (fun v16 => ?_)
    refine gr_pf 8 (by decide) (by decide) rfl (by decide) (by decide) rfl rfl ?_
    refine gr_gf 8 (by decide) (by decide) rfl (by decide) rfl (fun v26 => ?_)
    refine gr_pf 8 (by decide) (by decide) rfl (by decide) (by decide) rfl rfl ?_
    exact gr_ret _
  · exact gr_ret _
def g_X5_takeBehindOperand (x1 : Int) : gM Int :=
  gcb (x1) (4) ((¬ (x1 = 4))) (gbd (g_X9_isComparison x1) (fun v11 => gcz (v11) ((v11 = 0)) (g_X5_takeBehindOperand_31 x1) (gget (-807) (fun v22 => gal 17 9 (v22) (fun v25 => gcz (v25) ((v25 = 0)) (g_X5_takeBehindOperand_31 x1) (gret (1))))))) (gbd (g_X5_takeClose) (fun v6 => gret (v6)))
set_option maxRecDepth 20000 in
theorem r_X5_takeBehindOperand (x1 : Int) : gr (f_X5_takeBehindOperand 8 x1) (g_X5_takeBehindOperand x1) := by
  unfold f_X5_takeBehindOperand g_X5_takeBehindOperand
  refine gr_cb ?_ ?_
  · refine gr_bd (r_X9_isComparison _) (fun v11 => ?_)
    refine gr_cz ?_ ?_
    · exact r_X5_takeBehindOperand_31 _
    · refine gr_gfp 8 17 (by decide) (by decide) rfl rfl (by decide) ?_
      refine gr_gf 8 (by decide) (by decide) rfl (by decide) rfl (fun v22 => ?_)
      refine gr_al 17 9 (by decide) (by decide) rfl (by decide) rfl (fun v25 => ?_)
      refine gr_cz ?_ ?_
      · exact r_X5_takeBehindOperand_31 _
      · exact gr_ret _
  · refine gr_bd (gr_ob 8 (by decide) (by decide) rfl (r_X5_takeClose)) (fun v6 => ?_)
    exact gr_ret _
def g_X5_take (x1 : Int) : gM Int :=
  gget (-806) (fun v1 => gck (hf_inI v1) (git ((v1 = 0)) (gbd (g_X5_takeAtLine x1) (fun v34 => gret (v34))) (git ((v1 = 1)) (gbd (g_X5_takeKind x1) (fun v40 => gret (v40))) (git ((v1 = 2)) (gbd (g_X5_takeOperand x1) (fun v46 => gret (v46))) (gbd (g_X5_takeBehindOperand x1) (fun v52 => gret (v52)))))))
set_option maxRecDepth 20000 in
theorem r_X5_take (x1 : Int) : gr (f_X5_take 8 x1) (g_X5_take x1) := by
  unfold f_X5_take g_X5_take
  refine gr_gf 8 (by decide) (by decide) rfl (by decide) rfl (fun v1 => ?_)
  refine gr_ck (fun _ => ?_)
  refine gr_it ?_ ?_
  · refine gr_bd (gr_ob 8 (by decide) (by decide) rfl (r_X5_takeAtLine _)) (fun v34 => ?_)
    exact gr_ret _
  · refine gr_it ?_ ?_
    · refine gr_bd (gr_ob 8 (by decide) (by decide) rfl (r_X5_takeKind _)) (fun v40 => ?_)
      exact gr_ret _
    · refine gr_it ?_ ?_
      · refine gr_bd (gr_ob 8 (by decide) (by decide) rfl (r_X5_takeOperand _)) (fun v46 => ?_)
        exact gr_ret _
      · refine gr_bd (gr_ob 8 (by decide) (by decide) rfl (r_X5_takeBehindOperand _)) (fun v52 => ?_)
        exact gr_ret _
def gB_X5_read_49 (x2 : Int) (rec_49 : Int → gM Int) (x4 : Int) : gM Int :=
  gcb (x4) (x2) ((x2 < x4)) (g_X5_read_115) (gbd (g_X9_advance) (fun _ => gget (-903) (fun v68 => gbd (g_X5_take v68) (fun v71 => gput (-811) (v71) (gget (-811) (fun v78 => gcz (v78) ((v78 = 0)) (gget (-903) (fun v100 => gcz (v100) ((¬ (v100 = 0))) (glet ((x4 + 1)) (fun x4_109 => rec_49 x4_109)) (g_X5_read_115))) (gget (-904) (fun v89 => gput (-812) (v89) (gret (0))))))))))
set_option maxRecDepth 20000 in
theorem rB_X5_read_49 (x2 : Int) (frec_49 : Int → hf_M Int) (rec_49 : Int → gM Int) (hrec_49 : ∀ s : Int, gr (frec_49 s) (rec_49 s)) (x4 : Int) : gr (B_X5_read_49 8 x2 frec_49 x4) (gB_X5_read_49 x2 rec_49 x4) := by
  unfold B_X5_read_49 gB_X5_read_49
  refine gr_cb ?_ ?_
  · exact r_X5_read_115
  · refine gr_gfp 8 9 (by decide) (by decide) rfl rfl (by decide) ?_
    refine gr_bd (gr_ob 9 (by decide) (by decide) rfl (r_X9_advance)) (fun _ => ?_)
    refine gr_gfp 8 9 (by decide) (by decide) rfl rfl (by decide) ?_
    refine gr_gf 9 (by decide) (by decide) rfl (by decide) rfl (fun v68 => ?_)
    refine gr_bd (gr_ob 8 (by decide) (by decide) rfl (r_X5_take _)) (fun v71 => ?_)
    refine gr_pf 8 (by decide) (by decide) rfl (by decide) (by decide) rfl rfl ?_
    refine gr_gf 8 (by decide) (by decide) rfl (by decide) rfl (fun v78 => ?_)
    refine gr_cz ?_ ?_
    · refine gr_gfp 8 9 (by decide) (by decide) rfl rfl (by decide) ?_
      refine gr_gf 9 (by decide) (by decide) rfl (by decide) rfl (fun v100 => ?_)
      refine gr_cz ?_ ?_
      · refine gr_let (fun x4_109 => ?_)
        exact hrec_49 _
      · exact r_X5_read_115
    · refine gr_gfp 8 9 (by decide) (by decide) rfl rfl (by decide) ?_
      refine gr_gf 9 (by decide) (by decide) rfl (by decide) rfl (fun v89 => ?_)
      refine gr_pf 8 (by decide) (by decide) rfl (by decide) (by decide) rfl rfl ?_
      exact gr_ret _
def g_X5_read_49 (x2 : Int) (x4 : Int) : gM Int :=
  gfx (fun rec s => gB_X5_read_49 x2 rec s) hf_N x4
set_option maxRecDepth 20000 in
theorem r_X5_read_49 (x2 : Int) (x4 : Int) : gr (f_X5_read_49 8 x2 x4) (g_X5_read_49 x2 x4) := by
  unfold f_X5_read_49 g_X5_read_49
  refine gr_fx (fun frec rec hrec s => ?_) _ _
  exact rB_X5_read_49 _ _ _ hrec _
def g_X5_read (x2 : Int) (x3 : Int) : gM Int :=
  gbd (g_X9_open x2) (fun _ => gput (-801) (x3) (gget (-801) (fun v15 => gck (v15 = 18 ∨ v15 = 23) (gbd (g_X4_clear v15) (fun _ => gput (-806) (0) (gput (-804) (0) (gput (-805) (0) (gput (-811) (0) (gput (-812) ((-1)) (g_X5_read_49 x2 0))))))))))
set_option maxRecDepth 20000 in
theorem r_X5_read (x2 : Int) (x3 : Int) : gr (f_X5_read 8 7 x2 x3) (g_X5_read x2 x3) := by
  unfold f_X5_read g_X5_read
  refine gr_gfp 8 9 (by decide) (by decide) rfl rfl (by decide) ?_
  refine gr_bd (gr_ob 9 (by decide) (by decide) rfl (r_X9_open _)) (fun _ => ?_)
  refine gr_pf 8 (by decide) (by decide) rfl (by decide) (by decide) rfl rfl ?_
  refine gr_gf 8 (by decide) (by decide) rfl (by decide) rfl (fun v15 => ?_)
  refine gr_bdp (fun hp => r_X4_clear _) (fun _ => ?_)
  refine gr_pf 8 (by decide) (by decide) rfl (by decide) (by decide) rfl rfl ?_
  refine gr_pf 8 (by decide) (by decide) rfl (by decide) (by decide) rfl rfl ?_
  refine gr_pf 8 (by decide) (by decide) rfl (by decide) (by decide) rfl rfl ?_
  refine gr_pf 8 (by decide) (by decide) rfl (by decide) (by decide) rfl rfl ?_
  refine gr_pf 8 (by decide) (by decide) rfl (by decide) (by decide) rfl rfl ?_
  exact r_X5_read_49 _ _
def g_X11_plan (x1 : Int) : gM Int :=
  gcz (x1) ((x1 < 0)) (gret ((-2))) (gget (-102) (fun v6 => gcb (x1) (v6) ((x1 ≤ v6)) (gget (-105) (fun v25 => gbd (g_X5_read x1 v25) (fun _ => gput (-102) (0) (gget (-811) (fun v40 => gcz (v40) ((v40 = 0)) (gget (-104) (fun v49 => gget (-105) (fun v55 => gput (-104) (v55) (gput (-105) (v49) (gput (-106) (1) (gget (-104) (fun v72 => gck (v72 = 18 ∨ v72 = 23) (gget (-(100 * v72 + 0)) (fun v75 => gret (v75)))))))))) (gret ((-1)))))))) (gret ((-2)))))
set_option maxRecDepth 20000 in
theorem r_X11_plan (x1 : Int) : gr (f_X11_plan 1 x1) (g_X11_plan x1) := by
  unfold f_X11_plan g_X11_plan
  refine gr_cz ?_ ?_
  · exact gr_ret _
  · refine gr_gf 1 (by decide) (by decide) rfl (by decide) rfl (fun v6 => ?_)
    refine gr_cb ?_ ?_
    · refine gr_gfp 1 8 (by decide) (by decide) rfl rfl (by decide) ?_
      refine gr_gfp 1 7 (by decide) (by decide) rfl rfl (by decide) ?_
      refine gr_gf 1 (by decide) (by decide) rfl (by decide) rfl (fun v25 => ?_)
      refine gr_bd (gr_ob 8 (by decide) (by decide) rfl (r_X5_read _ _)) (fun _ => ?_)
      refine gr_pf 1 (by decide) (by decide) rfl (by decide) (by decide) rfl rfl ?_
      refine gr_gfp 1 8 (by decide) (by decide) rfl rfl (by decide) ?_
      refine gr_gf 8 (by decide) (by decide) rfl (by decide) rfl (fun v40 => ?_)
      refine gr_cz ?_ ?_
      · refine gr_gf 1 (by decide) (by decide) rfl (by decide) rfl (fun v49 => ?_)
        refine gr_gf 1 (by decide) (by decide) rfl (by decide) rfl (fun v55 => ?_)
        refine gr_pf 1 (by decide) (by decide) rfl (by decide) (by decide) rfl rfl ?_
        refine gr_pf 1 (by decide) (by decide) rfl (by decide) (by decide) rfl rfl ?_
        refine gr_pf 1 (by decide) (by decide) rfl (by decide) (by decide) rfl rfl ?_
        refine gr_gf 1 (by decide) (by decide) rfl (by decide) rfl (fun v72 => ?_)
        refine gr_gfps (by decide) rfl (fun hp v75 => ?_)
        exact gr_ret _
      · exact gr_ret _
    · exact gr_ret _
def g_X12_isSmall (x1 : Int) : gM Int :=
  gget (-6913) (fun v2 => gcb (x1) (v2) ((v2 ≤ x1)) (gret (0)) (gal 70 400 (x1) (fun v13 => gcb (v13) (97) ((v13 < 97)) (gret (0)) (gal 70 400 (x1) (fun v24 => gcb (v24) (122) ((122 < v24)) (gret (0)) (gret (1)))))))
set_option maxRecDepth 20000 in
theorem r_X12_isSmall (x1 : Int) : gr (f_X12_isSmall 69 x1) (g_X12_isSmall x1) := by
  unfold f_X12_isSmall g_X12_isSmall
  refine gr_gf 69 (by decide) (by decide) rfl (by decide) rfl (fun v2 => ?_)
  refine gr_cb ?_ ?_
  · exact gr_ret _
  · refine gr_gfp 69 70 (by decide) (by decide) rfl rfl (by decide) ?_
    refine gr_al 70 400 (by decide) (by decide) rfl (by decide) rfl (fun v13 => ?_)
    refine gr_cb ?_ ?_
    · exact gr_ret _
    · refine gr_gfp 69 70 (by decide) (by decide) rfl rfl (by decide) ?_
      refine gr_al 70 400 (by decide) (by decide) rfl (by decide) rfl (fun v24 => ?_)
      refine gr_cb ?_ ?_
      · exact gr_ret _
      · exact gr_ret _
def g_X12_isDigit (x1 : Int) : gM Int :=
  gget (-6913) (fun v2 => gcb (x1) (v2) ((v2 ≤ x1)) (gret (0)) (gal 70 400 (x1) (fun v13 => gcb (v13) (48) ((v13 < 48)) (gret (0)) (gal 70 400 (x1) (fun v24 => gcb (v24) (57) ((57 < v24)) (gret (0)) (gret (1)))))))
set_option maxRecDepth 20000 in
theorem r_X12_isDigit (x1 : Int) : gr (f_X12_isDigit 69 x1) (g_X12_isDigit x1) := by
  unfold f_X12_isDigit g_X12_isDigit
  refine gr_gf 69 (by decide) (by decide) rfl (by decide) rfl (fun v2 => ?_)
  refine gr_cb ?_ ?_
  · exact gr_ret _
  · refine gr_gfp 69 70 (by decide) (by decide) rfl rfl (by decide) ?_
    refine gr_al 70 400 (by decide) (by decide) rfl (by decide) rfl (fun v13 => ?_)
    refine gr_cb ?_ ?_
    · exact gr_ret _
    · refine gr_gfp 69 70 (by decide) (by decide) rfl rfl (by decide) ?_
      refine gr_al 70 400 (by decide) (by decide) rfl (by decide) rfl (fun v24 => ?_)
      refine gr_cb ?_ ?_
      · exact gr_ret _
      · exact gr_ret _
def g_X12_takeSign_192 (s1 : Int) : gM Int :=
  gput (-6916) (s1) (gret (0))
set_option maxRecDepth 20000 in
theorem r_X12_takeSign_192 (s1 : Int) : gr (f_X12_takeSign_192 69 s1) (g_X12_takeSign_192 s1) := by
  unfold f_X12_takeSign_192 g_X12_takeSign_192
  refine gr_pf 69 (by decide) (by decide) rfl (by decide) (by decide) rfl rfl ?_
  exact gr_ret _
def g_X12_takeSign_135 (x2 : Int) (x3 : Int) : gM Int :=
  gput (-6915) (4) (gget (-6916) (fun v142 => gcb (v142) (61) ((¬ (v142 = 61))) (gget (-6916) (fun v155 => gcb (v155) (60) ((¬ (v155 = 60))) (gcz (x2) ((x2 = 0)) (g_X12_takeSign_192 5) (g_X12_takeSign_192 4)) (gcz (x2) ((x2 = 0)) (gcz (x3) ((x3 = 0)) (g_X12_takeSign_192 0) (g_X12_takeSign_192 3)) (g_X12_takeSign_192 1)))) (g_X12_takeSign_192 2)))
set_option maxRecDepth 20000 in
theorem r_X12_takeSign_135 (x2 : Int) (x3 : Int) : gr (f_X12_takeSign_135 69 x2 x3) (g_X12_takeSign_135 x2 x3) := by
  unfold f_X12_takeSign_135 g_X12_takeSign_135
  refine gr_pf 69 (by decide) (by decide) rfl (by decide) (by decide) rfl rfl ?_
  refine gr_gf 69 (by decide) (by decide) rfl (by decide) rfl (fun v142 => ?_)
  refine gr_cb ?_ ?_
  · refine gr_gf 69 (by decide) (by decide) rfl (by decide) rfl (fun v155 => ?_)
    refine gr_cb ?_ ?_
    · refine gr_cz ?_ ?_
      · exact r_X12_takeSign_192 _
      · exact r_X12_takeSign_192 _
    · refine gr_cz ?_ ?_
      · refine gr_cz ?_ ?_
        · exact r_X12_takeSign_192 _
        · exact r_X12_takeSign_192 _
      · exact r_X12_takeSign_192 _
  · exact r_X12_takeSign_192 _
def g_X12_takeSign_125 (x2 : Int) (x3 : Int) : gM Int :=
  gget (-6914) (fun v127 => gput (-6914) ((v127 + 1)) (g_X12_takeSign_135 x2 x3))
set_option maxRecDepth 20000 in
theorem r_X12_takeSign_125 (x2 : Int) (x3 : Int) : gr (f_X12_takeSign_125 69 x2 x3) (g_X12_takeSign_125 x2 x3) := by
  unfold f_X12_takeSign_125 g_X12_takeSign_125
  refine gr_gf 69 (by decide) (by decide) rfl (by decide) rfl (fun v127 => ?_)
  refine gr_pf 69 (by decide) (by decide) rfl (by decide) (by decide) rfl rfl ?_
  exact r_X12_takeSign_135 _ _
def g_X12_takeSign_116 (x2 : Int) (s0 : Int) : gM Int :=
  gcz (x2) ((¬ (x2 = 0))) (g_X12_takeSign_125 x2 s0) (gcz (s0) ((s0 = 0)) (g_X12_takeSign_135 x2 s0) (g_X12_takeSign_125 x2 s0))
set_option maxRecDepth 20000 in
theorem r_X12_takeSign_116 (x2 : Int) (s0 : Int) : gr (f_X12_takeSign_116 69 x2 s0) (g_X12_takeSign_116 x2 s0) := by
  unfold f_X12_takeSign_116 g_X12_takeSign_116
  refine gr_cz ?_ ?_
  · exact r_X12_takeSign_125 _ _
  · refine gr_cz ?_ ?_
    · exact r_X12_takeSign_135 _ _
    · exact r_X12_takeSign_125 _ _
def g_X12_takeSign_95 (x1 : Int) (s0 : Int) : gM Int :=
  gget (-6916) (fun v97 => gcb (v97) (60) ((¬ (v97 = 60))) (g_X12_takeSign_116 s0 0) (gcb (x1) (62) ((¬ (x1 = 62))) (g_X12_takeSign_116 s0 0) (g_X12_takeSign_116 s0 1)))
set_option maxRecDepth 20000 in
theorem r_X12_takeSign_95 (x1 : Int) (s0 : Int) : gr (f_X12_takeSign_95 69 x1 s0) (g_X12_takeSign_95 x1 s0) := by
  unfold f_X12_takeSign_95 g_X12_takeSign_95
  refine gr_gf 69 (by decide) (by decide) rfl (by decide) rfl (fun v97 => ?_)
  refine gr_cb ?_ ?_
  · exact r_X12_takeSign_116 _ _
  · refine gr_cb ?_ ?_
    · exact r_X12_takeSign_116 _ _
    · exact r_X12_takeSign_116 _ _
def g_X12_takeSign_74 (s0 : Int) : gM Int :=
  gget (-6916) (fun v76 => gcb (v76) (61) ((v76 = 61)) (g_X12_takeSign_95 s0 0) (gcb (s0) (61) ((¬ (s0 = 61))) (g_X12_takeSign_95 s0 0) (g_X12_takeSign_95 s0 1)))
set_option maxRecDepth 20000 in
theorem r_X12_takeSign_74 (s0 : Int) : gr (f_X12_takeSign_74 69 s0) (g_X12_takeSign_74 s0) := by
  unfold f_X12_takeSign_74 g_X12_takeSign_74
  refine gr_gf 69 (by decide) (by decide) rfl (by decide) rfl (fun v76 => ?_)
  refine gr_cb ?_ ?_
  · exact r_X12_takeSign_95 _ _
  · refine gr_cb ?_ ?_
    · exact r_X12_takeSign_95 _ _
    · exact r_X12_takeSign_95 _ _
def g_X12_takeSign_50  : gM Int :=
  gget (-6914) (fun v51 => gget (-6913) (fun v55 => gcb (v51) (v55) ((v55 ≤ v51)) (g_X12_takeSign_74 0) (gget (-6914) (fun v66 => gal 70 400 (v66) (fun v69 => g_X12_takeSign_74 v69)))))
set_option maxRecDepth 20000 in
theorem r_X12_takeSign_50  : gr (f_X12_takeSign_50 69) (g_X12_takeSign_50 ) := by
  unfold f_X12_takeSign_50 g_X12_takeSign_50
  refine gr_gf 69 (by decide) (by decide) rfl (by decide) rfl (fun v51 => ?_)
  refine gr_gf 69 (by decide) (by decide) rfl (by decide) rfl (fun v55 => ?_)
  refine gr_cb ?_ ?_
  · exact r_X12_takeSign_74 _
  · refine gr_gfp 69 70 (by decide) (by decide) rfl rfl (by decide) ?_
    refine gr_gf 69 (by decide) (by decide) rfl (by decide) rfl (fun v66 => ?_)
    refine gr_al 70 400 (by decide) (by decide) rfl (by decide) rfl (fun v69 => ?_)
    exact r_X12_takeSign_74 _
def g_X12_takeSign_266 (s0 : Int) : gM Int :=
  gck (hf_inI s0) (glet ((if (s0 = 0) then 5 else 3)) (fun w277 => gput (-6915) (w277) (gret (0))))
set_option maxRecDepth 20000 in
theorem r_X12_takeSign_266 (s0 : Int) : gr (f_X12_takeSign_266 69 s0) (g_X12_takeSign_266 s0) := by
  unfold f_X12_takeSign_266 g_X12_takeSign_266
  refine gr_ck (fun _ => ?_)
  refine gr_let (fun w277 => ?_)
  refine gr_pf 69 (by decide) (by decide) rfl (by decide) (by decide) rfl rfl ?_
  exact gr_ret _
def g_X12_takeSign  : gM Int :=
  gget (-6914) (fun v6 => gal 70 400 (v6) (fun v9 => gput (-6916) (v9) (gget (-6914) (fun v15 => gput (-6914) ((v15 + 1)) (gget (-6916) (fun v24 => gcb (v24) (60) ((v24 = 60)) (g_X12_takeSign_50) (gget (-6916) (fun v33 => gcb (v33) (62) ((v33 = 62)) (g_X12_takeSign_50) (gget (-6916) (fun v42 => gcb (v42) (61) ((¬ (v42 = 61))) (gget (-6916) (fun v199 => gcb (v199) (59) ((v199 = 59)) (g_X12_takeSign_266 1) (gget (-6916) (fun v208 => gcb (v208) (40) ((v208 = 40)) (g_X12_takeSign_266 1) (gget (-6916) (fun v217 => gcb (v217) (41) ((v217 = 41)) (g_X12_takeSign_266 1) (gget (-6916) (fun v226 => gcb (v226) (43) ((v226 = 43)) (g_X12_takeSign_266 1) (gget (-6916) (fun v235 => gcb (v235) (45) ((v235 = 45)) (g_X12_takeSign_266 1) (gget (-6916) (fun v244 => gcb (v244) (42) ((v244 = 42)) (g_X12_takeSign_266 1) (gget (-6916) (fun v253 => gcb (v253) (47) ((¬ (v253 = 47))) (g_X12_takeSign_266 0) (g_X12_takeSign_266 1))))))))))))))) (g_X12_takeSign_50)))))))))))
set_option maxRecDepth 20000 in
theorem r_X12_takeSign  : gr (f_X12_takeSign 69) (g_X12_takeSign ) := by
  unfold f_X12_takeSign g_X12_takeSign
  refine gr_gfp 69 70 (by decide) (by decide) rfl rfl (by decide) ?_
  refine gr_gf 69 (by decide) (by decide) rfl (by decide) rfl (fun v6 => ?_)
  refine gr_al 70 400 (by decide) (by decide) rfl (by decide) rfl (fun v9 => ?_)
  refine gr_pf 69 (by decide) (by decide) rfl (by decide) (by decide) rfl rfl ?_
  refine gr_gf 69 (by decide) (by decide) rfl (by decide) rfl (fun v15 => ?_)
  refine gr_pf 69 (by decide) (by decide) rfl (by decide) (by decide) rfl rfl ?_
  refine gr_gf 69 (by decide) (by decide) rfl (by decide) rfl (fun v24 => ?_)
  refine gr_cb ?_ ?_
  · exact r_X12_takeSign_50
  · refine gr_gf 69 (by decide) (by decide) rfl (by decide) rfl (fun v33 => ?_)
    refine gr_cb ?_ ?_
    · exact r_X12_takeSign_50
    · refine gr_gf 69 (by decide) (by decide) rfl (by decide) rfl (fun v42 => ?_)
      refine gr_cb ?_ ?_
      · refine gr_gf 69 (by decide) (by decide) rfl (by decide) rfl (fun v199 => ?_)
        refine gr_cb ?_ ?_
        · exact r_X12_takeSign_266 _
        · refine gr_gf 69 (by decide) (by decide) rfl (by decide) rfl (fun v208 => ?_)
          refine gr_cb ?_ ?_
          · exact r_X12_takeSign_266 _
          · refine gr_gf 69 (by decide) (by decide) rfl (by decide) rfl (fun v217 => ?_)
            refine gr_cb ?_ ?_
            · exact r_X12_takeSign_266 _
            · refine gr_gf 69 (by decide) (by decide) rfl (by decide) rfl (fun v226 => ?_)
              refine gr_cb ?_ ?_
              · exact r_X12_takeSign_266 _
              · refine gr_gf 69 (by decide) (by decide) rfl (by decide) rfl (fun v235 => ?_)
                refine gr_cb ?_ ?_
                · exact r_X12_takeSign_266 _
                · refine gr_gf 69 (by decide) (by decide) rfl (by decide) rfl (fun v244 => ?_)
                  refine gr_cb ?_ ?_
                  · exact r_X12_takeSign_266 _
                  · refine gr_gf 69 (by decide) (by decide) rfl (by decide) rfl (fun v253 => ?_)
                    refine gr_cb ?_ ?_
                    · exact r_X12_takeSign_266 _
                    · exact r_X12_takeSign_266 _
      · exact r_X12_takeSign_50
def g_X12_take_219 (rec_170 : Unit → gM Int) (s1 : Int) : gM Int :=
  gput (-6916) (s1) (gget (-6914) (fun v224 => gput (-6914) ((v224 + 1)) (rec_170 ())))
set_option maxRecDepth 20000 in
theorem r_X12_take_219 (frec_170 : Unit → hf_M Int) (rec_170 : Unit → gM Int) (hrec_170 : ∀ s : Unit, gr (frec_170 s) (rec_170 s)) (s1 : Int) : gr (f_X12_take_219 frec_170 69 69 s1) (g_X12_take_219 rec_170 s1) := by
  unfold f_X12_take_219 g_X12_take_219
  refine gr_pf 69 (by decide) (by decide) rfl (by decide) (by decide) rfl rfl ?_
  refine gr_gf 69 (by decide) (by decide) rfl (by decide) rfl (fun v224 => ?_)
  refine gr_pf 69 (by decide) (by decide) rfl (by decide) (by decide) rfl rfl ?_
  exact hrec_170 _
def gB_X12_take_170 (rec_170 : Unit → gM Int) : gM Int :=
  gget (-6914) (fun v172 => gbd (g_X12_isDigit v172) (fun v175 => gcz (v175) ((v175 = 0)) (gret (0)) (gget (-6916) (fun v183 => gcb (v183) (999) ((v183 ≤ 999)) (gget (-6916) (fun v202 => gget (-6914) (fun v211 => gal 70 400 (v211) (fun v214 => g_X12_take_219 rec_170 (((10 * v202) + v214) - 48))))) (gget (-6916) (fun v193 => g_X12_take_219 rec_170 v193))))))
set_option maxRecDepth 20000 in
theorem rB_X12_take_170 (frec_170 : Unit → hf_M Int) (rec_170 : Unit → gM Int) (hrec_170 : ∀ s : Unit, gr (frec_170 s) (rec_170 s)) : gr (B_X12_take_170 69 frec_170) (gB_X12_take_170 rec_170) := by
  unfold B_X12_take_170 gB_X12_take_170
  refine gr_gf 69 (by decide) (by decide) rfl (by decide) rfl (fun v172 => ?_)
  refine gr_bd (gr_ob 69 (by decide) (by decide) rfl (r_X12_isDigit _)) (fun v175 => ?_)
  refine gr_cz ?_ ?_
  · exact gr_ret _
  · refine gr_gf 69 (by decide) (by decide) rfl (by decide) rfl (fun v183 => ?_)
    refine gr_cb ?_ ?_
    · refine gr_gf 69 (by decide) (by decide) rfl (by decide) rfl (fun v202 => ?_)
      refine gr_gfp 69 70 (by decide) (by decide) rfl rfl (by decide) ?_
      refine gr_gf 69 (by decide) (by decide) rfl (by decide) rfl (fun v211 => ?_)
      refine gr_al 70 400 (by decide) (by decide) rfl (by decide) rfl (fun v214 => ?_)
      exact r_X12_take_219 frec_170 rec_170 hrec_170 _
    · refine gr_gf 69 (by decide) (by decide) rfl (by decide) rfl (fun v193 => ?_)
      exact r_X12_take_219 frec_170 rec_170 hrec_170 _
def g_X12_take_170  : gM Int :=
  gfx (fun rec s => gB_X12_take_170 rec) hf_N ()
set_option maxRecDepth 20000 in
theorem r_X12_take_170  : gr (f_X12_take_170 69) (g_X12_take_170 ) := by
  unfold f_X12_take_170 g_X12_take_170
  refine gr_fx (fun frec rec hrec s => ?_) _ _
  exact rB_X12_take_170 _ _ hrec
def g_X12_wordAt_104 (rec_5 : Int × Int → gM Int) (x1 : Int) (x2 : Int) (x3 : Int) (x4 : Int) (x5 : Int) (x6 : Int) : gM Int :=
  gcz (x6) ((x6 = 0)) (glet ((x4 + (x5 + 1))) (fun x4_118 => glet ((x3 + 1)) (fun x3_120 => rec_5 (x3_120, x4_118)))) (gret (x3))
set_option maxRecDepth 20000 in
theorem r_X12_wordAt_104 (frec_5 : Int × Int → hf_M Int) (rec_5 : Int × Int → gM Int) (hrec_5 : ∀ s : Int × Int, gr (frec_5 s) (rec_5 s)) (x1 : Int) (x2 : Int) (x3 : Int) (x4 : Int) (x5 : Int) (x6 : Int) : gr (f_X12_wordAt_104 frec_5 69 x1 x2 x3 x4 x5 x6) (g_X12_wordAt_104 rec_5 x1 x2 x3 x4 x5 x6) := by
  unfold f_X12_wordAt_104 g_X12_wordAt_104
  refine gr_cz ?_ ?_
  · refine gr_let (fun x4_118 => ?_)
    refine gr_let (fun x3_120 => ?_)
    exact hrec_5 _
  · exact gr_ret _
def gB_X12_wordAt_57 (rec_5 : Int × Int → gM Int) (x1 : Int) (x2 : Int) (x3 : Int) (x4 : Int) (x5 : Int) (rec_57 : Int × Int → gM Int) (x6 : Int) (x7 : Int) : gM Int :=
  gcb (x7) (x5) ((x5 ≤ x7)) (g_X12_wordAt_104 rec_5 x1 x2 x3 x4 x5 x6) (gcz (x6) ((x6 = 0)) (g_X12_wordAt_104 rec_5 x1 x2 x3 x4 x5 x6) (gal 75 69 ((x4 + x7)) (fun v78 => gal 70 400 ((x1 + x7)) (fun v87 => gck ((hf_inI v78) ∧ (hf_inI v87)) (glet ((if (¬ (v78 = v87)) then 0 else 1)) (fun w96 => glet ((x7 + 1)) (fun x7_98 => rec_57 (w96, x7_98))))))))
set_option maxRecDepth 20000 in
theorem rB_X12_wordAt_57 (frec_5 : Int × Int → hf_M Int) (rec_5 : Int × Int → gM Int) (hrec_5 : ∀ s : Int × Int, gr (frec_5 s) (rec_5 s)) (x1 : Int) (x2 : Int) (x3 : Int) (x4 : Int) (x5 : Int) (frec_57 : Int × Int → hf_M Int) (rec_57 : Int × Int → gM Int) (hrec_57 : ∀ s : Int × Int, gr (frec_57 s) (rec_57 s)) (x6 : Int) (x7 : Int) : gr (B_X12_wordAt_57 frec_5 69 x1 x2 x3 x4 x5 frec_57 x6 x7) (gB_X12_wordAt_57 rec_5 x1 x2 x3 x4 x5 rec_57 x6 x7) := by
  unfold B_X12_wordAt_57 gB_X12_wordAt_57
  refine gr_cb ?_ ?_
  · exact r_X12_wordAt_104 frec_5 rec_5 hrec_5 _ _ _ _ _ _
  · refine gr_cz ?_ ?_
    · exact r_X12_wordAt_104 frec_5 rec_5 hrec_5 _ _ _ _ _ _
    · refine gr_gfp 69 75 (by decide) (by decide) rfl rfl (by decide) ?_
      refine gr_al 75 69 (by decide) (by decide) rfl (by decide) rfl (fun v78 => ?_)
      refine gr_gfp 69 70 (by decide) (by decide) rfl rfl (by decide) ?_
      refine gr_al 70 400 (by decide) (by decide) rfl (by decide) rfl (fun v87 => ?_)
      refine gr_ck (fun _ => ?_)
      refine gr_let (fun w96 => ?_)
      refine gr_let (fun x7_98 => ?_)
      exact hrec_57 _
def g_X12_wordAt_57 (rec_5 : Int × Int → gM Int) (x1 : Int) (x2 : Int) (x3 : Int) (x4 : Int) (x5 : Int) (x6 : Int) (x7 : Int) : gM Int :=
  gfx (fun rec s => gB_X12_wordAt_57 rec_5 x1 x2 x3 x4 x5 rec s.1 s.2) hf_N (x6, x7)
set_option maxRecDepth 20000 in
theorem r_X12_wordAt_57 (frec_5 : Int × Int → hf_M Int) (rec_5 : Int × Int → gM Int) (hrec_5 : ∀ s : Int × Int, gr (frec_5 s) (rec_5 s)) (x1 : Int) (x2 : Int) (x3 : Int) (x4 : Int) (x5 : Int) (x6 : Int) (x7 : Int) : gr (f_X12_wordAt_57 frec_5 69 x1 x2 x3 x4 x5 x6 x7) (g_X12_wordAt_57 rec_5 x1 x2 x3 x4 x5 x6 x7) := by
  unfold f_X12_wordAt_57 g_X12_wordAt_57
  refine gr_fx (fun frec rec hrec s => ?_) _ _
  exact rB_X12_wordAt_57 _ _ hrec_5 _ _ _ _ _ _ _ hrec _ _
def gB_X12_wordAt_18 (rec_5 : Int × Int → gM Int) (x1 : Int) (x2 : Int) (x3 : Int) (x4 : Int) (rec_18 : Int → gM Int) (x5 : Int) : gM Int :=
  gal 75 69 ((x4 + x5)) (fun v27 => gcb (v27) (32) ((v27 = 32)) (gck ((hf_inI x5) ∧ (hf_inI (x2 - x1))) (glet ((if (¬ (x5 = (x2 - x1))) then 0 else 1)) (fun w52 => g_X12_wordAt_57 rec_5 x1 x2 x3 x4 x5 w52 0))) (glet ((x5 + 1)) (fun x5_33 => rec_18 x5_33)))
set_option maxRecDepth 20000 in
theorem rB_X12_wordAt_18 (frec_5 : Int × Int → hf_M Int) (rec_5 : Int × Int → gM Int) (hrec_5 : ∀ s : Int × Int, gr (frec_5 s) (rec_5 s)) (x1 : Int) (x2 : Int) (x3 : Int) (x4 : Int) (frec_18 : Int → hf_M Int) (rec_18 : Int → gM Int) (hrec_18 : ∀ s : Int, gr (frec_18 s) (rec_18 s)) (x5 : Int) : gr (B_X12_wordAt_18 frec_5 69 x1 x2 x3 x4 frec_18 x5) (gB_X12_wordAt_18 rec_5 x1 x2 x3 x4 rec_18 x5) := by
  unfold B_X12_wordAt_18 gB_X12_wordAt_18
  refine gr_gfp 69 75 (by decide) (by decide) rfl rfl (by decide) ?_
  refine gr_al 75 69 (by decide) (by decide) rfl (by decide) rfl (fun v27 => ?_)
  refine gr_cb ?_ ?_
  · refine gr_ck (fun _ => ?_)
    refine gr_let (fun w52 => ?_)
    exact r_X12_wordAt_57 frec_5 rec_5 hrec_5 _ _ _ _ _ _ _
  · refine gr_let (fun x5_33 => ?_)
    exact hrec_18 _
def g_X12_wordAt_18 (rec_5 : Int × Int → gM Int) (x1 : Int) (x2 : Int) (x3 : Int) (x4 : Int) (x5 : Int) : gM Int :=
  gfx (fun rec s => gB_X12_wordAt_18 rec_5 x1 x2 x3 x4 rec s) hf_N x5
set_option maxRecDepth 20000 in
theorem r_X12_wordAt_18 (frec_5 : Int × Int → hf_M Int) (rec_5 : Int × Int → gM Int) (hrec_5 : ∀ s : Int × Int, gr (frec_5 s) (rec_5 s)) (x1 : Int) (x2 : Int) (x3 : Int) (x4 : Int) (x5 : Int) : gr (f_X12_wordAt_18 frec_5 69 x1 x2 x3 x4 x5) (g_X12_wordAt_18 rec_5 x1 x2 x3 x4 x5) := by
  unfold f_X12_wordAt_18 g_X12_wordAt_18
  refine gr_fx (fun frec rec hrec s => ?_) _ _
  exact rB_X12_wordAt_18 _ _ hrec_5 _ _ _ _ _ _ hrec _
def gB_X12_wordAt_5 (x1 : Int) (x2 : Int) (rec_5 : Int × Int → gM Int) (x3 : Int) (x4 : Int) : gM Int :=
  gcb (x4) (69) ((69 ≤ x4)) (gret ((-1))) (g_X12_wordAt_18 rec_5 x1 x2 x3 x4 0)
set_option maxRecDepth 20000 in
theorem rB_X12_wordAt_5 (x1 : Int) (x2 : Int) (frec_5 : Int × Int → hf_M Int) (rec_5 : Int × Int → gM Int) (hrec_5 : ∀ s : Int × Int, gr (frec_5 s) (rec_5 s)) (x3 : Int) (x4 : Int) : gr (B_X12_wordAt_5 69 x1 x2 frec_5 x3 x4) (gB_X12_wordAt_5 x1 x2 rec_5 x3 x4) := by
  unfold B_X12_wordAt_5 gB_X12_wordAt_5
  refine gr_gfp 69 75 (by decide) (by decide) rfl rfl (by decide) ?_
  refine gr_an 75 69 (by decide) (by decide) rfl rfl ?_
  refine gr_cb ?_ ?_
  · exact gr_ret _
  · exact r_X12_wordAt_18 frec_5 rec_5 hrec_5 _ _ _ _ _
def g_X12_wordAt_5 (x1 : Int) (x2 : Int) (x3 : Int) (x4 : Int) : gM Int :=
  gfx (fun rec s => gB_X12_wordAt_5 x1 x2 rec s.1 s.2) hf_N (x3, x4)
set_option maxRecDepth 20000 in
theorem r_X12_wordAt_5 (x1 : Int) (x2 : Int) (x3 : Int) (x4 : Int) : gr (f_X12_wordAt_5 69 x1 x2 x3 x4) (g_X12_wordAt_5 x1 x2 x3 x4) := by
  unfold f_X12_wordAt_5 g_X12_wordAt_5
  refine gr_fx (fun frec rec hrec s => ?_) _ _
  exact rB_X12_wordAt_5 _ _ _ _ hrec _ _
def g_X12_wordAt (x1 : Int) (x2 : Int) : gM Int :=
  g_X12_wordAt_5 x1 x2 0 0
set_option maxRecDepth 20000 in
theorem r_X12_wordAt (x1 : Int) (x2 : Int) : gr (f_X12_wordAt 69 x1 x2) (g_X12_wordAt x1 x2) := by
  unfold f_X12_wordAt g_X12_wordAt
  exact r_X12_wordAt_5 _ _ _ _
def gB_X12_take_90 (rec_90 : Unit → gM Int) : gM Int :=
  gget (-6914) (fun v92 => gbd (g_X12_isSmall v92) (fun v95 => gcz (v95) ((v95 = 0)) (gget (-6917) (fun v117 => gget (-6914) (fun v121 => gbd (g_X12_wordAt v117 v121) (fun v124 => gput (-6916) (v124) (gget (-6916) (fun v132 => gck (hf_inI v132) (glet ((if (v132 < 0) then 5 else 1)) (fun w143 => gput (-6915) (w143) (gret (0)))))))))) (gget (-6914) (fun v103 => gput (-6914) ((v103 + 1)) (rec_90 ())))))
set_option maxRecDepth 20000 in
theorem rB_X12_take_90 (frec_90 : Unit → hf_M Int) (rec_90 : Unit → gM Int) (hrec_90 : ∀ s : Unit, gr (frec_90 s) (rec_90 s)) : gr (B_X12_take_90 69 frec_90) (gB_X12_take_90 rec_90) := by
  unfold B_X12_take_90 gB_X12_take_90
  refine gr_gf 69 (by decide) (by decide) rfl (by decide) rfl (fun v92 => ?_)
  refine gr_bd (gr_ob 69 (by decide) (by decide) rfl (r_X12_isSmall _)) (fun v95 => ?_)
  refine gr_cz ?_ ?_
  · refine gr_gf 69 (by decide) (by decide) rfl (by decide) rfl (fun v117 => ?_)
    refine gr_gf 69 (by decide) (by decide) rfl (by decide) rfl (fun v121 => ?_)
    refine gr_bd (gr_ob 69 (by decide) (by decide) rfl (r_X12_wordAt _ _)) (fun v124 => ?_)
    refine gr_pf 69 (by decide) (by decide) rfl (by decide) (by decide) rfl rfl ?_
    refine gr_gf 69 (by decide) (by decide) rfl (by decide) rfl (fun v132 => ?_)
    refine gr_ck (fun _ => ?_)
    refine gr_let (fun w143 => ?_)
    refine gr_pf 69 (by decide) (by decide) rfl (by decide) (by decide) rfl rfl ?_
    exact gr_ret _
  · refine gr_gf 69 (by decide) (by decide) rfl (by decide) rfl (fun v103 => ?_)
    refine gr_pf 69 (by decide) (by decide) rfl (by decide) (by decide) rfl rfl ?_
    exact hrec_90 _
def g_X12_take_90  : gM Int :=
  gfx (fun rec s => gB_X12_take_90 rec) hf_N ()
set_option maxRecDepth 20000 in
theorem r_X12_take_90  : gr (f_X12_take_90 69) (g_X12_take_90 ) := by
  unfold f_X12_take_90 g_X12_take_90
  refine gr_fx (fun frec rec hrec s => ?_) _ _
  exact rB_X12_take_90 _ _ hrec
def g_X12_take_52  : gM Int :=
  gget (-6914) (fun v54 => gput (-6917) (v54) (gget (-6914) (fun v61 => gget (-6913) (fun v65 => gcb (v61) (v65) ((¬ (v61 = v65))) (gget (-6914) (fun v81 => gbd (g_X12_isSmall v81) (fun v84 => gcz (v84) ((v84 = 0)) (gget (-6914) (fun v151 => gbd (g_X12_isDigit v151) (fun v154 => gcz (v154) ((v154 = 0)) (gbd (g_X12_takeSign) (fun _ => gret (0))) (gput (-6915) (2) (gput (-6916) (0) (g_X12_take_170)))))) (g_X12_take_90)))) (gput (-6915) (0) (gret (0)))))))
set_option maxRecDepth 20000 in
theorem r_X12_take_52  : gr (f_X12_take_52 69) (g_X12_take_52 ) := by
  unfold f_X12_take_52 g_X12_take_52
  refine gr_gf 69 (by decide) (by decide) rfl (by decide) rfl (fun v54 => ?_)
  refine gr_pf 69 (by decide) (by decide) rfl (by decide) (by decide) rfl rfl ?_
  refine gr_gf 69 (by decide) (by decide) rfl (by decide) rfl (fun v61 => ?_)
  refine gr_gf 69 (by decide) (by decide) rfl (by decide) rfl (fun v65 => ?_)
  refine gr_cb ?_ ?_
  · refine gr_gf 69 (by decide) (by decide) rfl (by decide) rfl (fun v81 => ?_)
    refine gr_bd (gr_ob 69 (by decide) (by decide) rfl (r_X12_isSmall _)) (fun v84 => ?_)
    refine gr_cz ?_ ?_
    · refine gr_gf 69 (by decide) (by decide) rfl (by decide) rfl (fun v151 => ?_)
      refine gr_bd (gr_ob 69 (by decide) (by decide) rfl (r_X12_isDigit _)) (fun v154 => ?_)
      refine gr_cz ?_ ?_
      · refine gr_bd (gr_ob 69 (by decide) (by decide) rfl (r_X12_takeSign)) (fun _ => ?_)
        exact gr_ret _
      · refine gr_pf 69 (by decide) (by decide) rfl (by decide) (by decide) rfl rfl ?_
        refine gr_pf 69 (by decide) (by decide) rfl (by decide) (by decide) rfl rfl ?_
        exact r_X12_take_170
    · exact r_X12_take_90
  · refine gr_pf 69 (by decide) (by decide) rfl (by decide) (by decide) rfl rfl ?_
    exact gr_ret _
def g_X12_take_39 (rec_0 : Unit → gM Int) : gM Int :=
  gget (-6914) (fun v41 => gput (-6914) ((v41 + 1)) (rec_0 ()))
set_option maxRecDepth 20000 in
theorem r_X12_take_39 (frec_0 : Unit → hf_M Int) (rec_0 : Unit → gM Int) (hrec_0 : ∀ s : Unit, gr (frec_0 s) (rec_0 s)) : gr (f_X12_take_39 frec_0 69) (g_X12_take_39 rec_0) := by
  unfold f_X12_take_39 g_X12_take_39
  refine gr_gf 69 (by decide) (by decide) rfl (by decide) rfl (fun v41 => ?_)
  refine gr_pf 69 (by decide) (by decide) rfl (by decide) (by decide) rfl rfl ?_
  exact hrec_0 _
def gB_X12_take_0 (rec_0 : Unit → gM Int) : gM Int :=
  gget (-6914) (fun v1 => gget (-6913) (fun v5 => gcb (v1) (v5) ((v5 ≤ v1)) (g_X12_take_52) (gget (-6914) (fun v16 => gal 70 400 (v16) (fun v19 => gcb (v19) (10) ((v19 = 10)) (g_X12_take_39 rec_0) (gget (-6914) (fun v30 => gal 70 400 (v30) (fun v33 => gcb (v33) (32) ((¬ (v33 = 32))) (g_X12_take_52) (g_X12_take_39 rec_0)))))))))
set_option maxRecDepth 20000 in
theorem rB_X12_take_0 (frec_0 : Unit → hf_M Int) (rec_0 : Unit → gM Int) (hrec_0 : ∀ s : Unit, gr (frec_0 s) (rec_0 s)) : gr (B_X12_take_0 69 frec_0) (gB_X12_take_0 rec_0) := by
  unfold B_X12_take_0 gB_X12_take_0
  refine gr_gf 69 (by decide) (by decide) rfl (by decide) rfl (fun v1 => ?_)
  refine gr_gf 69 (by decide) (by decide) rfl (by decide) rfl (fun v5 => ?_)
  refine gr_cb ?_ ?_
  · exact r_X12_take_52
  · refine gr_gfp 69 70 (by decide) (by decide) rfl rfl (by decide) ?_
    refine gr_gf 69 (by decide) (by decide) rfl (by decide) rfl (fun v16 => ?_)
    refine gr_al 70 400 (by decide) (by decide) rfl (by decide) rfl (fun v19 => ?_)
    refine gr_cb ?_ ?_
    · exact r_X12_take_39 frec_0 rec_0 hrec_0
    · refine gr_gfp 69 70 (by decide) (by decide) rfl rfl (by decide) ?_
      refine gr_gf 69 (by decide) (by decide) rfl (by decide) rfl (fun v30 => ?_)
      refine gr_al 70 400 (by decide) (by decide) rfl (by decide) rfl (fun v33 => ?_)
      refine gr_cb ?_ ?_
      · exact r_X12_take_52
      · exact r_X12_take_39 frec_0 rec_0 hrec_0
def g_X12_take_0  : gM Int :=
  gfx (fun rec s => gB_X12_take_0 rec) hf_N ()
set_option maxRecDepth 20000 in
theorem r_X12_take_0  : gr (f_X12_take_0 69) (g_X12_take_0 ) := by
  unfold f_X12_take_0 g_X12_take_0
  refine gr_fx (fun frec rec hrec s => ?_) _ _
  exact rB_X12_take_0 _ _ hrec
def g_X12_take  : gM Int :=
  g_X12_take_0
set_option maxRecDepth 20000 in
theorem r_X12_take  : gr (f_X12_take 69) (g_X12_take ) := by
  unfold f_X12_take g_X12_take
  exact r_X12_take_0
def gB_X12_plan_162 (rec_162 : Int → gM Int) (x2 : Int) : gM Int :=
  gcb (x2) (12) ((12 ≤ x2)) (gget (-6919) (fun v250 => gret (v250))) (gal 79 24 ((12 + x2)) (fun v181 => gas 79 24 (x2) (v181) (gal 80 24 ((12 + x2)) (fun v196 => gas 80 24 (x2) (v196) (gal 81 24 ((12 + x2)) (fun v211 => gas 81 24 (x2) (v211) (gal 82 24 ((12 + x2)) (fun v226 => gas 82 24 (x2) (v226) (gal 83 24 ((12 + x2)) (fun v241 => gas 83 24 (x2) (v241) (glet ((x2 + 1)) (fun x2_243 => rec_162 x2_243))))))))))))
set_option maxRecDepth 20000 in
theorem rB_X12_plan_162 (frec_162 : Int → hf_M Int) (rec_162 : Int → gM Int) (hrec_162 : ∀ s : Int, gr (frec_162 s) (rec_162 s)) (x2 : Int) : gr (B_X12_plan_162 69 frec_162 x2) (gB_X12_plan_162 rec_162 x2) := by
  unfold B_X12_plan_162 gB_X12_plan_162
  refine gr_cb ?_ ?_
  · refine gr_gf 69 (by decide) (by decide) rfl (by decide) rfl (fun v250 => ?_)
    exact gr_ret _
  · refine gr_gfp 69 79 (by decide) (by decide) rfl rfl (by decide) ?_
    refine gr_gfp 69 79 (by decide) (by decide) rfl rfl (by decide) ?_
    refine gr_al 79 24 (by decide) (by decide) rfl (by decide) rfl (fun v181 => ?_)
    refine gr_as 79 24 (by decide) (by decide) rfl (by decide) rfl rfl ?_
    refine gr_gfp 69 80 (by decide) (by decide) rfl rfl (by decide) ?_
    refine gr_gfp 69 80 (by decide) (by decide) rfl rfl (by decide) ?_
    refine gr_al 80 24 (by decide) (by decide) rfl (by decide) rfl (fun v196 => ?_)
    refine gr_as 80 24 (by decide) (by decide) rfl (by decide) rfl rfl ?_
    refine gr_gfp 69 81 (by decide) (by decide) rfl rfl (by decide) ?_
    refine gr_gfp 69 81 (by decide) (by decide) rfl rfl (by decide) ?_
    refine gr_al 81 24 (by decide) (by decide) rfl (by decide) rfl (fun v211 => ?_)
    refine gr_as 81 24 (by decide) (by decide) rfl (by decide) rfl rfl ?_
    refine gr_gfp 69 82 (by decide) (by decide) rfl rfl (by decide) ?_
    refine gr_gfp 69 82 (by decide) (by decide) rfl rfl (by decide) ?_
    refine gr_al 82 24 (by decide) (by decide) rfl (by decide) rfl (fun v226 => ?_)
    refine gr_as 82 24 (by decide) (by decide) rfl (by decide) rfl rfl ?_
    refine gr_gfp 69 83 (by decide) (by decide) rfl rfl (by decide) ?_
    refine gr_gfp 69 83 (by decide) (by decide) rfl rfl (by decide) ?_
    refine gr_al 83 24 (by decide) (by decide) rfl (by decide) rfl (fun v241 => ?_)
    refine gr_as 83 24 (by decide) (by decide) rfl (by decide) rfl rfl ?_
    refine gr_let (fun x2_243 => ?_)
    exact hrec_162 _
def g_X12_plan_162 (x2 : Int) : gM Int :=
  gfx (fun rec s => gB_X12_plan_162 rec s) hf_N x2
set_option maxRecDepth 20000 in
theorem r_X12_plan_162 (x2 : Int) : gr (f_X12_plan_162 69 x2) (g_X12_plan_162 x2) := by
  unfold f_X12_plan_162 g_X12_plan_162
  refine gr_fx (fun frec rec hrec s => ?_) _ _
  exact rB_X12_plan_162 _ _ hrec _
def gB_X12_plan_103 (rec_103 : Int → gM Int) (x2 : Int) : gM Int :=
  gcb (x2) (64) ((64 ≤ x2)) (g_X12_plan_162 0) (gal 76 128 ((64 + x2)) (fun v122 => gas 76 128 (x2) (v122) (gal 77 128 ((64 + x2)) (fun v137 => gas 77 128 (x2) (v137) (gal 78 128 ((64 + x2)) (fun v152 => gas 78 128 (x2) (v152) (glet ((x2 + 1)) (fun x2_154 => rec_103 x2_154))))))))
set_option maxRecDepth 20000 in
theorem rB_X12_plan_103 (frec_103 : Int → hf_M Int) (rec_103 : Int → gM Int) (hrec_103 : ∀ s : Int, gr (frec_103 s) (rec_103 s)) (x2 : Int) : gr (B_X12_plan_103 69 frec_103 x2) (gB_X12_plan_103 rec_103 x2) := by
  unfold B_X12_plan_103 gB_X12_plan_103
  refine gr_cb ?_ ?_
  · exact r_X12_plan_162 _
  · refine gr_gfp 69 76 (by decide) (by decide) rfl rfl (by decide) ?_
    refine gr_gfp 69 76 (by decide) (by decide) rfl rfl (by decide) ?_
    refine gr_al 76 128 (by decide) (by decide) rfl (by decide) rfl (fun v122 => ?_)
    refine gr_as 76 128 (by decide) (by decide) rfl (by decide) rfl rfl ?_
    refine gr_gfp 69 77 (by decide) (by decide) rfl rfl (by decide) ?_
    refine gr_gfp 69 77 (by decide) (by decide) rfl rfl (by decide) ?_
    refine gr_al 77 128 (by decide) (by decide) rfl (by decide) rfl (fun v137 => ?_)
    refine gr_as 77 128 (by decide) (by decide) rfl (by decide) rfl rfl ?_
    refine gr_gfp 69 78 (by decide) (by decide) rfl rfl (by decide) ?_
    refine gr_gfp 69 78 (by decide) (by decide) rfl rfl (by decide) ?_
    refine gr_al 78 128 (by decide) (by decide) rfl (by decide) rfl (fun v152 => ?_)
    refine gr_as 78 128 (by decide) (by decide) rfl (by decide) rfl rfl ?_
    refine gr_let (fun x2_154 => ?_)
    exact hrec_103 _
def g_X12_plan_103 (x2 : Int) : gM Int :=
  gfx (fun rec s => gB_X12_plan_103 rec s) hf_N x2
set_option maxRecDepth 20000 in
theorem r_X12_plan_103 (x2 : Int) : gr (f_X12_plan_103 69 x2) (g_X12_plan_103 x2) := by
  unfold f_X12_plan_103 g_X12_plan_103
  refine gr_fx (fun frec rec hrec s => ?_) _ _
  exact rB_X12_plan_103 _ _ hrec _
def g_X12_isKey (x1 : Int) : gM Int :=
  gget (-6915) (fun v1 => gcb (v1) (1) ((¬ (v1 = 1))) (gret (0)) (gget (-6916) (fun v9 => gcb (v9) (x1) ((¬ (v9 = x1))) (gret (0)) (gret (1)))))
set_option maxRecDepth 20000 in
theorem r_X12_isKey (x1 : Int) : gr (f_X12_isKey 69 x1) (g_X12_isKey x1) := by
  unfold f_X12_isKey g_X12_isKey
  refine gr_gf 69 (by decide) (by decide) rfl (by decide) rfl (fun v1 => ?_)
  refine gr_cb ?_ ?_
  · exact gr_ret _
  · refine gr_gf 69 (by decide) (by decide) rfl (by decide) rfl (fun v9 => ?_)
    refine gr_cb ?_ ?_
    · exact gr_ret _
    · exact gr_ret _
def g_X12_isSign (x1 : Int) : gM Int :=
  gget (-6915) (fun v1 => gcb (v1) (3) ((¬ (v1 = 3))) (gret (0)) (gget (-6916) (fun v9 => gcb (v9) (x1) ((¬ (v9 = x1))) (gret (0)) (gret (1)))))
set_option maxRecDepth 20000 in
theorem r_X12_isSign (x1 : Int) : gr (f_X12_isSign 69 x1) (g_X12_isSign x1) := by
  unfold f_X12_isSign g_X12_isSign
  refine gr_gf 69 (by decide) (by decide) rfl (by decide) rfl (fun v1 => ?_)
  refine gr_cb ?_ ?_
  · exact gr_ret _
  · refine gr_gf 69 (by decide) (by decide) rfl (by decide) rfl (fun v9 => ?_)
    refine gr_cb ?_ ?_
    · exact gr_ret _
    · exact gr_ret _
def g_X12_signMet  : gM Int :=
  gbd (g_X12_isKey 3) (fun v2 => gcz (v2) ((v2 = 0)) (gbd (g_X12_isKey 4) (fun v14 => gcz (v14) ((v14 = 0)) (gget (-6915) (fun v25 => gcb (v25) (4) ((¬ (v25 = 4))) (gbd (g_X12_isSign 43) (fun v44 => gcz (v44) ((v44 = 0)) (gbd (g_X12_isSign 45) (fun v58 => gcz (v58) ((v58 = 0)) (gbd (g_X12_isSign 42) (fun v72 => gcz (v72) ((v72 = 0)) (gbd (g_X12_isSign 47) (fun v86 => gcz (v86) ((v86 = 0)) (gret (0)) (gret (14)))) (gret (13)))) (gret (12)))) (gret (11)))) (gget (-6916) (fun v34 => gret ((5 + v34)))))) (gret (4)))) (gret (3)))
set_option maxRecDepth 20000 in
theorem r_X12_signMet  : gr (f_X12_signMet 69) (g_X12_signMet ) := by
  unfold f_X12_signMet g_X12_signMet
  refine gr_bd (gr_ob 69 (by decide) (by decide) rfl (r_X12_isKey _)) (fun v2 => ?_)
  refine gr_cz ?_ ?_
  · refine gr_bd (gr_ob 69 (by decide) (by decide) rfl (r_X12_isKey _)) (fun v14 => ?_)
    refine gr_cz ?_ ?_
    · refine gr_gf 69 (by decide) (by decide) rfl (by decide) rfl (fun v25 => ?_)
      refine gr_cb ?_ ?_
      · refine gr_bd (gr_ob 69 (by decide) (by decide) rfl (r_X12_isSign _)) (fun v44 => ?_)
        refine gr_cz ?_ ?_
        · refine gr_bd (gr_ob 69 (by decide) (by decide) rfl (r_X12_isSign _)) (fun v58 => ?_)
          refine gr_cz ?_ ?_
          · refine gr_bd (gr_ob 69 (by decide) (by decide) rfl (r_X12_isSign _)) (fun v72 => ?_)
            refine gr_cz ?_ ?_
            · refine gr_bd (gr_ob 69 (by decide) (by decide) rfl (r_X12_isSign _)) (fun v86 => ?_)
              refine gr_cz ?_ ?_
              · exact gr_ret _
              · exact gr_ret _
            · exact gr_ret _
          · exact gr_ret _
        · exact gr_ret _
      · refine gr_gf 69 (by decide) (by decide) rfl (by decide) rfl (fun v34 => ?_)
        exact gr_ret _
    · exact gr_ret _
  · exact gr_ret _
def g_X12_rank (x0 : Int) : gM Int :=
  gcb (x0) (13) ((x0 < 13)) (gcb (x0) (11) ((x0 < 11)) (gcb (x0) (5) ((x0 < 5)) (gcb (x0) (2) ((¬ (x0 = 2))) (gcb (x0) (3) ((¬ (x0 = 3))) (gcb (x0) (4) ((¬ (x0 = 4))) (gret (0)) (gret (1))) (gret (2))) (gret (3))) (gret (4))) (gret (5))) (gret (6))
set_option maxRecDepth 20000 in
theorem r_X12_rank (x0 : Int) : gr (f_X12_rank x0) (g_X12_rank x0) := by
  unfold f_X12_rank g_X12_rank
  refine gr_cb ?_ ?_
  · refine gr_cb ?_ ?_
    · refine gr_cb ?_ ?_
      · refine gr_cb ?_ ?_
        · refine gr_cb ?_ ?_
          · refine gr_cb ?_ ?_
            · exact gr_ret _
            · exact gr_ret _
          · exact gr_ret _
        · exact gr_ret _
      · exact gr_ret _
    · exact gr_ret _
  · exact gr_ret _
def g_X12_dropHeld  : gM Int :=
  gget (-6934) (fun v2 => gput (-6934) ((v2 - 1)) (gget (-6934) (fun v15 => gal 85 96 (v15) (fun v18 => gret (v18)))))
set_option maxRecDepth 20000 in
theorem r_X12_dropHeld  : gr (f_X12_dropHeld 69) (g_X12_dropHeld ) := by
  unfold f_X12_dropHeld g_X12_dropHeld
  refine gr_gf 69 (by decide) (by decide) rfl (by decide) rfl (fun v2 => ?_)
  refine gr_pf 69 (by decide) (by decide) rfl (by decide) (by decide) rfl rfl ?_
  refine gr_gfp 69 85 (by decide) (by decide) rfl rfl (by decide) ?_
  refine gr_gf 69 (by decide) (by decide) rfl (by decide) rfl (fun v15 => ?_)
  refine gr_al 85 96 (by decide) (by decide) rfl (by decide) rfl (fun v18 => ?_)
  exact gr_ret _
def g_X12_grown (x1 : Int) (x2 : Int) (x3 : Int) : gM Int :=
  gget (-6922) (fun v7 => gas 76 128 ((64 + v7)) (x1) (gget (-6922) (fun v20 => gas 77 128 ((64 + v20)) (x2) (gget (-6922) (fun v33 => gas 78 128 ((64 + v33)) (x3) (gget (-6934) (fun v44 => gget (-6922) (fun v48 => gas 85 96 (v44) (v48) (gget (-6934) (fun v54 => gput (-6934) ((v54 + 1)) (gget (-6922) (fun v64 => gput (-6922) ((v64 + 1)) (gret (0))))))))))))))
set_option maxRecDepth 20000 in
theorem r_X12_grown (x1 : Int) (x2 : Int) (x3 : Int) : gr (f_X12_grown 69 x1 x2 x3) (g_X12_grown x1 x2 x3) := by
  unfold f_X12_grown g_X12_grown
  refine gr_gfp 69 76 (by decide) (by decide) rfl rfl (by decide) ?_
  refine gr_gf 69 (by decide) (by decide) rfl (by decide) rfl (fun v7 => ?_)
  refine gr_as 76 128 (by decide) (by decide) rfl (by decide) rfl rfl ?_
  refine gr_gfp 69 77 (by decide) (by decide) rfl rfl (by decide) ?_
  refine gr_gf 69 (by decide) (by decide) rfl (by decide) rfl (fun v20 => ?_)
  refine gr_as 77 128 (by decide) (by decide) rfl (by decide) rfl rfl ?_
  refine gr_gfp 69 78 (by decide) (by decide) rfl rfl (by decide) ?_
  refine gr_gf 69 (by decide) (by decide) rfl (by decide) rfl (fun v33 => ?_)
  refine gr_as 78 128 (by decide) (by decide) rfl (by decide) rfl rfl ?_
  refine gr_gfp 69 85 (by decide) (by decide) rfl rfl (by decide) ?_
  refine gr_gf 69 (by decide) (by decide) rfl (by decide) rfl (fun v44 => ?_)
  refine gr_gf 69 (by decide) (by decide) rfl (by decide) rfl (fun v48 => ?_)
  refine gr_as 85 96 (by decide) (by decide) rfl (by decide) rfl rfl ?_
  refine gr_gf 69 (by decide) (by decide) rfl (by decide) rfl (fun v54 => ?_)
  refine gr_pf 69 (by decide) (by decide) rfl (by decide) (by decide) rfl rfl ?_
  refine gr_gf 69 (by decide) (by decide) rfl (by decide) rfl (fun v64 => ?_)
  refine gr_pf 69 (by decide) (by decide) rfl (by decide) (by decide) rfl rfl ?_
  exact gr_ret _
def g_X12_bind_58 (rec_0 : Unit → gM Int) (x1 : Int) (x2 : Int) (s0 : Int) : gM Int :=
  gbd (g_X12_dropHeld) (fun v60 => gbd (g_X12_grown x2 v60 s0) (fun _ => rec_0 ()))
set_option maxRecDepth 20000 in
theorem r_X12_bind_58 (frec_0 : Unit → hf_M Int) (rec_0 : Unit → gM Int) (hrec_0 : ∀ s : Unit, gr (frec_0 s) (rec_0 s)) (x1 : Int) (x2 : Int) (s0 : Int) : gr (f_X12_bind_58 frec_0 69 x1 x2 s0) (g_X12_bind_58 rec_0 x1 x2 s0) := by
  unfold f_X12_bind_58 g_X12_bind_58
  refine gr_bd (gr_ob 69 (by decide) (by decide) rfl (r_X12_dropHeld)) (fun v60 => ?_)
  refine gr_bd (gr_ob 69 (by decide) (by decide) rfl (r_X12_grown _ _ _)) (fun _ => ?_)
  exact hrec_0 _
def gB_X12_bind_0 (x1 : Int) (rec_0 : Unit → gM Int) : gM Int :=
  gget (-6933) (fun v1 => gcz (v1) ((v1 ≤ 0)) (gret (0)) (gget (-6933) (fun v12 => gal 84 96 ((v12 - 1)) (fun v17 => gbd (g_X12_rank v17) (fun v18 => gcb (v18) (x1) ((v18 < x1)) (gret (0)) (gget (-6933) (fun v27 => gput (-6933) ((v27 - 1)) (gget (-6933) (fun v40 => gal 84 96 (v40) (fun v43 => gcb (v43) (2) ((¬ (v43 = 2))) (gbd (g_X12_dropHeld) (fun v55 => g_X12_bind_58 rec_0 x1 v43 v55)) (g_X12_bind_58 rec_0 x1 v43 (-1))))))))))))
set_option maxRecDepth 20000 in
theorem rB_X12_bind_0 (x1 : Int) (frec_0 : Unit → hf_M Int) (rec_0 : Unit → gM Int) (hrec_0 : ∀ s : Unit, gr (frec_0 s) (rec_0 s)) : gr (B_X12_bind_0 69 x1 frec_0) (gB_X12_bind_0 x1 rec_0) := by
  unfold B_X12_bind_0 gB_X12_bind_0
  refine gr_gf 69 (by decide) (by decide) rfl (by decide) rfl (fun v1 => ?_)
  refine gr_cz ?_ ?_
  · exact gr_ret _
  · refine gr_gfp 69 84 (by decide) (by decide) rfl rfl (by decide) ?_
    refine gr_gf 69 (by decide) (by decide) rfl (by decide) rfl (fun v12 => ?_)
    refine gr_al 84 96 (by decide) (by decide) rfl (by decide) rfl (fun v17 => ?_)
    refine gr_bd (r_X12_rank _) (fun v18 => ?_)
    refine gr_cb ?_ ?_
    · exact gr_ret _
    · refine gr_gf 69 (by decide) (by decide) rfl (by decide) rfl (fun v27 => ?_)
      refine gr_pf 69 (by decide) (by decide) rfl (by decide) (by decide) rfl rfl ?_
      refine gr_gfp 69 84 (by decide) (by decide) rfl rfl (by decide) ?_
      refine gr_gf 69 (by decide) (by decide) rfl (by decide) rfl (fun v40 => ?_)
      refine gr_al 84 96 (by decide) (by decide) rfl (by decide) rfl (fun v43 => ?_)
      refine gr_cb ?_ ?_
      · refine gr_bd (gr_ob 69 (by decide) (by decide) rfl (r_X12_dropHeld)) (fun v55 => ?_)
        exact r_X12_bind_58 frec_0 rec_0 hrec_0 _ _ _
      · exact r_X12_bind_58 frec_0 rec_0 hrec_0 _ _ _
def g_X12_bind_0 (x1 : Int) : gM Int :=
  gfx (fun rec s => gB_X12_bind_0 x1 rec) hf_N ()
set_option maxRecDepth 20000 in
theorem r_X12_bind_0 (x1 : Int) : gr (f_X12_bind_0 69 x1) (g_X12_bind_0 x1) := by
  unfold f_X12_bind_0 g_X12_bind_0
  refine gr_fx (fun frec rec hrec s => ?_) _ _
  exact rB_X12_bind_0 _ _ _ hrec
def g_X12_bind (x1 : Int) : gM Int :=
  g_X12_bind_0 x1
set_option maxRecDepth 20000 in
theorem r_X12_bind (x1 : Int) : gr (f_X12_bind 69 x1) (g_X12_bind x1) := by
  unfold f_X12_bind g_X12_bind
  exact r_X12_bind_0 _
def g_X12_wrong (x1 : Int) : gM Int :=
  gput (-6911) (x1) (gget (-6917) (fun v7 => gput (-6912) (v7) (gret (0))))
set_option maxRecDepth 20000 in
theorem r_X12_wrong (x1 : Int) : gr (f_X12_wrong 69 x1) (g_X12_wrong x1) := by
  unfold f_X12_wrong g_X12_wrong
  refine gr_pf 69 (by decide) (by decide) rfl (by decide) (by decide) rfl rfl ?_
  refine gr_gf 69 (by decide) (by decide) rfl (by decide) rfl (fun v7 => ?_)
  refine gr_pf 69 (by decide) (by decide) rfl (by decide) (by decide) rfl rfl ?_
  exact gr_ret _
def g_X12_isCounted  : gM Int :=
  gget (-6936) (fun v1 => gcb (v1) (64) ((¬ (v1 = 64))) (gget (-6936) (fun v17 => gput (-6936) ((v17 + 1)) (gret (1)))) (gbd (g_X12_wrong 2) (fun v11 => gck ((v11 = 0) ∨ (v11 = 1)) (gret (v11)))))
set_option maxRecDepth 20000 in
theorem r_X12_isCounted  : gr (f_X12_isCounted 69) (g_X12_isCounted ) := by
  unfold f_X12_isCounted g_X12_isCounted
  refine gr_gf 69 (by decide) (by decide) rfl (by decide) rfl (fun v1 => ?_)
  refine gr_cb ?_ ?_
  · refine gr_gf 69 (by decide) (by decide) rfl (by decide) rfl (fun v17 => ?_)
    refine gr_pf 69 (by decide) (by decide) rfl (by decide) (by decide) rfl rfl ?_
    exact gr_ret _
  · refine gr_bd (gr_ob 69 (by decide) (by decide) rfl (r_X12_wrong _)) (fun v11 => ?_)
    refine gr_ck (fun _ => ?_)
    exact gr_ret _
def g_X12_waitsFor (x1 : Int) : gM Int :=
  gget (-6933) (fun v5 => gas 84 96 (v5) (x1) (gget (-6933) (fun v12 => gput (-6933) ((v12 + 1)) (gret (0)))))
set_option maxRecDepth 20000 in
theorem r_X12_waitsFor (x1 : Int) : gr (f_X12_waitsFor 69 x1) (g_X12_waitsFor x1) := by
  unfold f_X12_waitsFor g_X12_waitsFor
  refine gr_gfp 69 84 (by decide) (by decide) rfl rfl (by decide) ?_
  refine gr_gf 69 (by decide) (by decide) rfl (by decide) rfl (fun v5 => ?_)
  refine gr_as 84 96 (by decide) (by decide) rfl (by decide) rfl rfl ?_
  refine gr_gf 69 (by decide) (by decide) rfl (by decide) rfl (fun v12 => ?_)
  refine gr_pf 69 (by decide) (by decide) rfl (by decide) (by decide) rfl rfl ?_
  exact gr_ret _
def g_X12_signs_121 (x1 : Int) : gM Int :=
  gbd (g_X12_isCounted) (fun v122 => gcz (v122) ((¬ (v122 = 0))) (gbd (g_X12_waitsFor x1) (fun _ => gput (-6937) (1) (gbd (g_X12_rank x1) (fun v142 => gck ((hf_inI v142) ∧ (hf_inI 3)) (glet ((if (3 ≤ v142) then 0 else 1)) (fun w154 => gck ((w154 = 0) ∨ (w154 = 1)) (gput (-6938) (w154) (gbd (g_X12_take) (fun _ => gret (1)))))))))) (gret (0)))
set_option maxRecDepth 20000 in
theorem r_X12_signs_121 (x1 : Int) : gr (f_X12_signs_121 69 x1) (g_X12_signs_121 x1) := by
  unfold f_X12_signs_121 g_X12_signs_121
  refine gr_bd (gr_ob 69 (by decide) (by decide) rfl (r_X12_isCounted)) (fun v122 => ?_)
  refine gr_cz ?_ ?_
  · refine gr_bd (gr_ob 69 (by decide) (by decide) rfl (r_X12_waitsFor _)) (fun _ => ?_)
    refine gr_pf 69 (by decide) (by decide) rfl (by decide) (by decide) rfl rfl ?_
    refine gr_bd (r_X12_rank _) (fun v142 => ?_)
    refine gr_ck (fun _ => ?_)
    refine gr_let (fun w154 => ?_)
    refine gr_ck (fun _ => ?_)
    refine gr_pf 69 (by decide) (by decide) rfl (by decide) (by decide) rfl rfl ?_
    refine gr_bd (gr_ob 69 (by decide) (by decide) rfl (r_X12_take)) (fun _ => ?_)
    exact gr_ret _
  · exact gr_ret _
def g_X12_signs_79 (x1 : Int) (s1 : Int) : gM Int :=
  gbd (g_X12_bind s1) (fun _ => gbd (g_X12_rank x1) (fun v83 => gcb (v83) (4) ((¬ (v83 = 4))) (g_X12_signs_121 x1) (gget (-6933) (fun v91 => gcz (v91) ((v91 ≤ 0)) (g_X12_signs_121 x1) (gget (-6933) (fun v102 => gal 84 96 ((v102 - 1)) (fun v107 => gbd (g_X12_rank v107) (fun v108 => gcb (v108) (4) ((¬ (v108 = 4))) (g_X12_signs_121 x1) (gbd (g_X12_wrong 1) (fun v117 => gck ((v117 = 0) ∨ (v117 = 1)) (gret (v117))))))))))))
set_option maxRecDepth 20000 in
theorem r_X12_signs_79 (x1 : Int) (s1 : Int) : gr (f_X12_signs_79 69 x1 69 s1) (g_X12_signs_79 x1 s1) := by
  unfold f_X12_signs_79 g_X12_signs_79
  refine gr_bd (gr_ob 69 (by decide) (by decide) rfl (r_X12_bind _)) (fun _ => ?_)
  refine gr_bd (r_X12_rank _) (fun v83 => ?_)
  refine gr_cb ?_ ?_
  · exact r_X12_signs_121 _
  · refine gr_gf 69 (by decide) (by decide) rfl (by decide) rfl (fun v91 => ?_)
    refine gr_cz ?_ ?_
    · exact r_X12_signs_121 _
    · refine gr_gfp 69 84 (by decide) (by decide) rfl rfl (by decide) ?_
      refine gr_gf 69 (by decide) (by decide) rfl (by decide) rfl (fun v102 => ?_)
      refine gr_al 84 96 (by decide) (by decide) rfl (by decide) rfl (fun v107 => ?_)
      refine gr_bd (r_X12_rank _) (fun v108 => ?_)
      refine gr_cb ?_ ?_
      · exact r_X12_signs_121 _
      · refine gr_bd (gr_ob 69 (by decide) (by decide) rfl (r_X12_wrong _)) (fun v117 => ?_)
        refine gr_ck (fun _ => ?_)
        exact gr_ret _
def g_X12_signs_47  : gM Int :=
  gbd (g_X12_signMet) (fun v48 => gcz (v48) ((¬ (v48 = 0))) (gbd (g_X12_rank v48) (fun v64 => gcb (v64) (4) ((¬ (v64 = 4))) (gbd (g_X12_rank v48) (fun v76 => g_X12_signs_79 v48 v76)) (g_X12_signs_79 v48 5))) (gbd (g_X12_wrong 1) (fun v58 => gck ((v58 = 0) ∨ (v58 = 1)) (gret (v58)))))
set_option maxRecDepth 20000 in
theorem r_X12_signs_47  : gr (f_X12_signs_47 69) (g_X12_signs_47 ) := by
  unfold f_X12_signs_47 g_X12_signs_47
  refine gr_bd (gr_ob 69 (by decide) (by decide) rfl (r_X12_signMet)) (fun v48 => ?_)
  refine gr_cz ?_ ?_
  · refine gr_bd (r_X12_rank _) (fun v64 => ?_)
    refine gr_cb ?_ ?_
    · refine gr_bd (r_X12_rank _) (fun v76 => ?_)
      exact r_X12_signs_79 _ _
    · exact r_X12_signs_79 _ _
  · refine gr_bd (gr_ob 69 (by decide) (by decide) rfl (r_X12_wrong _)) (fun v58 => ?_)
    refine gr_ck (fun _ => ?_)
    exact gr_ret _
def g_X12_signs  : gM Int :=
  gbd (g_X12_isSign 41) (fun v3 => gcz (v3) ((v3 = 0)) (g_X12_signs_47) (gget (-6935) (fun v10 => gcz (v10) ((v10 ≤ 0)) (g_X12_signs_47) (gbd (g_X12_bind 1) (fun _ => gget (-6933) (fun v23 => gput (-6933) ((v23 - 1)) (gget (-6935) (fun v33 => gput (-6935) ((v33 - 1)) (gbd (g_X12_take) (fun _ => gret (1)))))))))))
set_option maxRecDepth 20000 in
theorem r_X12_signs  : gr (f_X12_signs 69) (g_X12_signs ) := by
  unfold f_X12_signs g_X12_signs
  refine gr_bd (gr_ob 69 (by decide) (by decide) rfl (r_X12_isSign _)) (fun v3 => ?_)
  refine gr_cz ?_ ?_
  · exact r_X12_signs_47
  · refine gr_gf 69 (by decide) (by decide) rfl (by decide) rfl (fun v10 => ?_)
    refine gr_cz ?_ ?_
    · exact r_X12_signs_47
    · refine gr_bd (gr_ob 69 (by decide) (by decide) rfl (r_X12_bind _)) (fun _ => ?_)
      refine gr_gf 69 (by decide) (by decide) rfl (by decide) rfl (fun v23 => ?_)
      refine gr_pf 69 (by decide) (by decide) rfl (by decide) (by decide) rfl rfl ?_
      refine gr_gf 69 (by decide) (by decide) rfl (by decide) rfl (fun v33 => ?_)
      refine gr_pf 69 (by decide) (by decide) rfl (by decide) (by decide) rfl rfl ?_
      refine gr_bd (gr_ob 69 (by decide) (by decide) rfl (r_X12_take)) (fun _ => ?_)
      exact gr_ret _
def g_X12_leafRead_162 (s1 : Int) (s2 : Int) : gM Int :=
  gbd (g_X12_grown s1 s2 0) (fun _ => gput (-6937) (0) (gbd (g_X12_take) (fun _ => gret (1))))
set_option maxRecDepth 20000 in
theorem r_X12_leafRead_162 (s1 : Int) (s2 : Int) : gr (f_X12_leafRead_162 69 69 s1 s2) (g_X12_leafRead_162 s1 s2) := by
  unfold f_X12_leafRead_162 g_X12_leafRead_162
  refine gr_bd (gr_ob 69 (by decide) (by decide) rfl (r_X12_grown _ _ _)) (fun _ => ?_)
  refine gr_pf 69 (by decide) (by decide) rfl (by decide) (by decide) rfl rfl ?_
  refine gr_bd (gr_ob 69 (by decide) (by decide) rfl (r_X12_take)) (fun _ => ?_)
  exact gr_ret _
def g_X12_leafRead_125 (x1 : Int) : gM Int :=
  gbd (g_X12_isCounted) (fun v126 => gcz (v126) ((¬ (v126 = 0))) (gck (hf_inI x1) (glet ((if (x1 = 0) then 0 else 1)) (fun w144 => gcz (x1) ((x1 = 0)) (gget (-6916) (fun v159 => g_X12_leafRead_162 w144 v159)) (gget (-6916) (fun v149 => g_X12_leafRead_162 w144 (v149 - 6)))))) (gret (0)))
set_option maxRecDepth 20000 in
theorem r_X12_leafRead_125 (x1 : Int) : gr (f_X12_leafRead_125 69 x1) (g_X12_leafRead_125 x1) := by
  unfold f_X12_leafRead_125 g_X12_leafRead_125
  refine gr_bd (gr_ob 69 (by decide) (by decide) rfl (r_X12_isCounted)) (fun v126 => ?_)
  refine gr_cz ?_ ?_
  · refine gr_ck (fun _ => ?_)
    refine gr_let (fun w144 => ?_)
    refine gr_cz ?_ ?_
    · refine gr_gf 69 (by decide) (by decide) rfl (by decide) rfl (fun v159 => ?_)
      exact r_X12_leafRead_162 _ _
    · refine gr_gf 69 (by decide) (by decide) rfl (by decide) rfl (fun v149 => ?_)
      exact r_X12_leafRead_162 _ _
  · exact gr_ret _
def g_X12_numberRead_30  : gM Int :=
  gbd (g_X12_wrong 2) (fun v32 => gcz (v32) ((v32 = 0)) (gret (0)) (gret (1)))
set_option maxRecDepth 20000 in
theorem r_X12_numberRead_30  : gr (f_X12_numberRead_30 69) (g_X12_numberRead_30 ) := by
  unfold f_X12_numberRead_30 g_X12_numberRead_30
  refine gr_bd (gr_ob 69 (by decide) (by decide) rfl (r_X12_wrong _)) (fun v32 => ?_)
  refine gr_cz ?_ ?_
  · exact gr_ret _
  · exact gr_ret _
def g_X12_numberRead (x1 : Int) (x2 : Int) : gM Int :=
  gget (-6915) (fun v1 => gcb (v1) (2) ((v1 = 2)) (gget (-6916) (fun v15 => gcb (v15) (x1) ((v15 < x1)) (g_X12_numberRead_30) (gget (-6916) (fun v23 => gcb (v23) (x2) ((v23 ≤ x2)) (gret (1)) (g_X12_numberRead_30))))) (gbd (g_X12_wrong 1) (fun v10 => gck ((v10 = 0) ∨ (v10 = 1)) (gret (v10)))))
set_option maxRecDepth 20000 in
theorem r_X12_numberRead (x1 : Int) (x2 : Int) : gr (f_X12_numberRead 69 x1 x2) (g_X12_numberRead x1 x2) := by
  unfold f_X12_numberRead g_X12_numberRead
  refine gr_gf 69 (by decide) (by decide) rfl (by decide) rfl (fun v1 => ?_)
  refine gr_cb ?_ ?_
  · refine gr_gf 69 (by decide) (by decide) rfl (by decide) rfl (fun v15 => ?_)
    refine gr_cb ?_ ?_
    · exact r_X12_numberRead_30
    · refine gr_gf 69 (by decide) (by decide) rfl (by decide) rfl (fun v23 => ?_)
      refine gr_cb ?_ ?_
      · exact gr_ret _
      · exact r_X12_numberRead_30
  · refine gr_bd (gr_ob 69 (by decide) (by decide) rfl (r_X12_wrong _)) (fun v10 => ?_)
    refine gr_ck (fun _ => ?_)
    exact gr_ret _
def g_X12_leafRead_107 (s0 : Int) : gM Int :=
  gcz (s0) ((¬ (s0 = 0))) (g_X12_leafRead_125 s0) (gbd (g_X12_numberRead 0 999) (fun v117 => gcz (v117) ((¬ (v117 = 0))) (g_X12_leafRead_125 s0) (gret (0))))
set_option maxRecDepth 20000 in
theorem r_X12_leafRead_107 (s0 : Int) : gr (f_X12_leafRead_107 69 s0) (g_X12_leafRead_107 s0) := by
  unfold f_X12_leafRead_107 g_X12_leafRead_107
  refine gr_cz ?_ ?_
  · exact r_X12_leafRead_125 _
  · refine gr_bd (gr_ob 69 (by decide) (by decide) rfl (r_X12_numberRead _ _)) (fun v117 => ?_)
    refine gr_cz ?_ ?_
    · exact r_X12_leafRead_125 _
    · exact gr_ret _
def g_X12_leafRead_85  : gM Int :=
  gget (-6915) (fun v86 => gcb (v86) (1) ((¬ (v86 = 1))) (g_X12_leafRead_107 0) (gget (-6916) (fun v94 => gcb (v94) (6) ((v94 < 6)) (g_X12_leafRead_107 0) (g_X12_leafRead_107 1))))
set_option maxRecDepth 20000 in
theorem r_X12_leafRead_85  : gr (f_X12_leafRead_85 69) (g_X12_leafRead_85 ) := by
  unfold f_X12_leafRead_85 g_X12_leafRead_85
  refine gr_gf 69 (by decide) (by decide) rfl (by decide) rfl (fun v86 => ?_)
  refine gr_cb ?_ ?_
  · exact r_X12_leafRead_107 _
  · refine gr_gf 69 (by decide) (by decide) rfl (by decide) rfl (fun v94 => ?_)
    refine gr_cb ?_ ?_
    · exact r_X12_leafRead_107 _
    · exact r_X12_leafRead_107 _
def g_X12_leafRead  : gM Int :=
  gbd (g_X12_isSign 40) (fun v3 => gcz (v3) ((v3 = 0)) (gbd (g_X12_isKey 5) (fun v52 => gcz (v52) ((v52 = 0)) (g_X12_leafRead_85) (gget (-6938) (fun v59 => gcz (v59) ((v59 = 0)) (g_X12_leafRead_85) (gbd (g_X12_isCounted) (fun v66 => gcz (v66) ((¬ (v66 = 0))) (gbd (g_X12_waitsFor 2) (fun _ => gbd (g_X12_take) (fun _ => gret (1)))) (gret (0)))))))) (gget (-6935) (fun v10 => gcb (v10) (8) ((¬ (v10 = 8))) (gget (-6935) (fun v26 => gput (-6935) ((v26 + 1)) (gbd (g_X12_waitsFor 0) (fun _ => gput (-6938) (1) (gbd (g_X12_take) (fun _ => gret (1))))))) (gbd (g_X12_wrong 2) (fun v20 => gck ((v20 = 0) ∨ (v20 = 1)) (gret (v20)))))))
set_option maxRecDepth 20000 in
theorem r_X12_leafRead  : gr (f_X12_leafRead 69) (g_X12_leafRead ) := by
  unfold f_X12_leafRead g_X12_leafRead
  refine gr_bd (gr_ob 69 (by decide) (by decide) rfl (r_X12_isSign _)) (fun v3 => ?_)
  refine gr_cz ?_ ?_
  · refine gr_bd (gr_ob 69 (by decide) (by decide) rfl (r_X12_isKey _)) (fun v52 => ?_)
    refine gr_cz ?_ ?_
    · exact r_X12_leafRead_85
    · refine gr_gf 69 (by decide) (by decide) rfl (by decide) rfl (fun v59 => ?_)
      refine gr_cz ?_ ?_
      · exact r_X12_leafRead_85
      · refine gr_bd (gr_ob 69 (by decide) (by decide) rfl (r_X12_isCounted)) (fun v66 => ?_)
        refine gr_cz ?_ ?_
        · refine gr_bd (gr_ob 69 (by decide) (by decide) rfl (r_X12_waitsFor _)) (fun _ => ?_)
          refine gr_bd (gr_ob 69 (by decide) (by decide) rfl (r_X12_take)) (fun _ => ?_)
          exact gr_ret _
        · exact gr_ret _
  · refine gr_gf 69 (by decide) (by decide) rfl (by decide) rfl (fun v10 => ?_)
    refine gr_cb ?_ ?_
    · refine gr_gf 69 (by decide) (by decide) rfl (by decide) rfl (fun v26 => ?_)
      refine gr_pf 69 (by decide) (by decide) rfl (by decide) (by decide) rfl rfl ?_
      refine gr_bd (gr_ob 69 (by decide) (by decide) rfl (r_X12_waitsFor _)) (fun _ => ?_)
      refine gr_pf 69 (by decide) (by decide) rfl (by decide) (by decide) rfl rfl ?_
      refine gr_bd (gr_ob 69 (by decide) (by decide) rfl (r_X12_take)) (fun _ => ?_)
      exact gr_ret _
    · refine gr_bd (gr_ob 69 (by decide) (by decide) rfl (r_X12_wrong _)) (fun v20 => ?_)
      refine gr_ck (fun _ => ?_)
      exact gr_ret _
def g_X12_sumRead_46 (rec_25 : Unit → gM Int) : gM Int :=
  gget (-6937) (fun v47 => gcz (v47) ((v47 = 0)) (gbd (g_X12_signs) (fun v64 => gcz (v64) ((¬ (v64 = 0))) (rec_25 ()) (gret (0)))) (gbd (g_X12_leafRead) (fun v54 => gcz (v54) ((v54 = 0)) (gret (0)) (rec_25 ()))))
set_option maxRecDepth 20000 in
theorem r_X12_sumRead_46 (frec_25 : Unit → hf_M Int) (rec_25 : Unit → gM Int) (hrec_25 : ∀ s : Unit, gr (frec_25 s) (rec_25 s)) : gr (f_X12_sumRead_46 frec_25 69) (g_X12_sumRead_46 rec_25) := by
  unfold f_X12_sumRead_46 g_X12_sumRead_46
  refine gr_gf 69 (by decide) (by decide) rfl (by decide) rfl (fun v47 => ?_)
  refine gr_cz ?_ ?_
  · refine gr_bd (gr_ob 69 (by decide) (by decide) rfl (r_X12_signs)) (fun v64 => ?_)
    refine gr_cz ?_ ?_
    · exact hrec_25 _
    · exact gr_ret _
  · refine gr_bd (gr_ob 69 (by decide) (by decide) rfl (r_X12_leafRead)) (fun v54 => ?_)
    refine gr_cz ?_ ?_
    · exact gr_ret _
    · exact hrec_25 _
def gB_X12_sumRead_25 (rec_25 : Unit → gM Int) : gM Int :=
  gget (-6937) (fun v26 => gcz (v26) ((¬ (v26 = 0))) (g_X12_sumRead_46 rec_25) (gget (-6935) (fun v33 => gcz (v33) ((0 < v33)) (g_X12_sumRead_46 rec_25) (gbd (g_X12_signMet) (fun v40 => gcz (v40) ((v40 ≤ 0)) (gbd (g_X12_bind 1) (fun _ => gret (1))) (g_X12_sumRead_46 rec_25))))))
set_option maxRecDepth 20000 in
theorem rB_X12_sumRead_25 (frec_25 : Unit → hf_M Int) (rec_25 : Unit → gM Int) (hrec_25 : ∀ s : Unit, gr (frec_25 s) (rec_25 s)) : gr (B_X12_sumRead_25 69 frec_25) (gB_X12_sumRead_25 rec_25) := by
  unfold B_X12_sumRead_25 gB_X12_sumRead_25
  refine gr_gf 69 (by decide) (by decide) rfl (by decide) rfl (fun v26 => ?_)
  refine gr_cz ?_ ?_
  · exact r_X12_sumRead_46 frec_25 rec_25 hrec_25
  · refine gr_gf 69 (by decide) (by decide) rfl (by decide) rfl (fun v33 => ?_)
    refine gr_cz ?_ ?_
    · exact r_X12_sumRead_46 frec_25 rec_25 hrec_25
    · refine gr_bd (gr_ob 69 (by decide) (by decide) rfl (r_X12_signMet)) (fun v40 => ?_)
      refine gr_cz ?_ ?_
      · refine gr_bd (gr_ob 69 (by decide) (by decide) rfl (r_X12_bind _)) (fun _ => ?_)
        exact gr_ret _
      · exact r_X12_sumRead_46 frec_25 rec_25 hrec_25
def g_X12_sumRead_25  : gM Int :=
  gfx (fun rec s => gB_X12_sumRead_25 rec) hf_N ()
set_option maxRecDepth 20000 in
theorem r_X12_sumRead_25  : gr (f_X12_sumRead_25 69) (g_X12_sumRead_25 ) := by
  unfold f_X12_sumRead_25 g_X12_sumRead_25
  refine gr_fx (fun frec rec hrec s => ?_) _ _
  exact rB_X12_sumRead_25 _ _ hrec
def g_X12_sumRead  : gM Int :=
  gput (-6933) (0) (gput (-6934) (0) (gput (-6935) (0) (gput (-6937) (1) (gput (-6938) (1) (g_X12_sumRead_25)))))
set_option maxRecDepth 20000 in
theorem r_X12_sumRead  : gr (f_X12_sumRead 69) (g_X12_sumRead ) := by
  unfold f_X12_sumRead g_X12_sumRead
  refine gr_pf 69 (by decide) (by decide) rfl (by decide) (by decide) rfl rfl ?_
  refine gr_pf 69 (by decide) (by decide) rfl (by decide) (by decide) rfl rfl ?_
  refine gr_pf 69 (by decide) (by decide) rfl (by decide) (by decide) rfl rfl ?_
  refine gr_pf 69 (by decide) (by decide) rfl (by decide) (by decide) rfl rfl ?_
  refine gr_pf 69 (by decide) (by decide) rfl (by decide) (by decide) rfl rfl ?_
  exact r_X12_sumRead_25
def g_X12_lineRead_162 (x1 : Int) : gM Int :=
  gget (-6922) (fun v168 => gas 81 24 (x1) (v168) (gbd (g_X12_sumRead) (fun v173 => gcz (v173) ((¬ (v173 = 0))) (gget (-6922) (fun v187 => gas 82 24 (x1) (v187) (gbd (g_X12_isSign 59) (fun v194 => gcz (v194) ((¬ (v194 = 0))) (gget (-6921) (fun v208 => gput (-6921) ((v208 + 1)) (gbd (g_X12_take) (fun _ => gret (1))))) (gbd (g_X12_wrong 1) (fun v202 => gck ((v202 = 0) ∨ (v202 = 1)) (gret (v202)))))))) (gret (0)))))
set_option maxRecDepth 20000 in
theorem r_X12_lineRead_162 (x1 : Int) : gr (f_X12_lineRead_162 69 x1) (g_X12_lineRead_162 x1) := by
  unfold f_X12_lineRead_162 g_X12_lineRead_162
  refine gr_gfp 69 81 (by decide) (by decide) rfl rfl (by decide) ?_
  refine gr_gf 69 (by decide) (by decide) rfl (by decide) rfl (fun v168 => ?_)
  refine gr_as 81 24 (by decide) (by decide) rfl (by decide) rfl rfl ?_
  refine gr_bd (gr_ob 69 (by decide) (by decide) rfl (r_X12_sumRead)) (fun v173 => ?_)
  refine gr_cz ?_ ?_
  · refine gr_gfp 69 82 (by decide) (by decide) rfl rfl (by decide) ?_
    refine gr_gf 69 (by decide) (by decide) rfl (by decide) rfl (fun v187 => ?_)
    refine gr_as 82 24 (by decide) (by decide) rfl (by decide) rfl rfl ?_
    refine gr_bd (gr_ob 69 (by decide) (by decide) rfl (r_X12_isSign _)) (fun v194 => ?_)
    refine gr_cz ?_ ?_
    · refine gr_gf 69 (by decide) (by decide) rfl (by decide) rfl (fun v208 => ?_)
      refine gr_pf 69 (by decide) (by decide) rfl (by decide) (by decide) rfl rfl ?_
      refine gr_bd (gr_ob 69 (by decide) (by decide) rfl (r_X12_take)) (fun _ => ?_)
      exact gr_ret _
    · refine gr_bd (gr_ob 69 (by decide) (by decide) rfl (r_X12_wrong _)) (fun v202 => ?_)
      refine gr_ck (fun _ => ?_)
      exact gr_ret _
  · exact gr_ret _
def g_X12_lineRead_116 (x1 : Int) : gM Int :=
  gas 83 24 (x1) ((-1)) (gbd (g_X12_isKey 1) (fun v125 => gbd (g_X12_take) (fun _ => gcz (v125) ((v125 = 0)) (g_X12_lineRead_162 x1) (gbd (g_X12_numberRead 0 2) (fun v140 => gcz (v140) ((¬ (v140 = 0))) (gget (-6916) (fun v154 => gas 83 24 (x1) (v154) (gbd (g_X12_take) (fun _ => g_X12_lineRead_162 x1)))) (gret (0)))))))
set_option maxRecDepth 20000 in
theorem r_X12_lineRead_116 (x1 : Int) : gr (f_X12_lineRead_116 69 x1) (g_X12_lineRead_116 x1) := by
  unfold f_X12_lineRead_116 g_X12_lineRead_116
  refine gr_gfp 69 83 (by decide) (by decide) rfl rfl (by decide) ?_
  refine gr_as 83 24 (by decide) (by decide) rfl (by decide) rfl rfl ?_
  refine gr_bd (gr_ob 69 (by decide) (by decide) rfl (r_X12_isKey _)) (fun v125 => ?_)
  refine gr_bd (gr_ob 69 (by decide) (by decide) rfl (r_X12_take)) (fun _ => ?_)
  refine gr_cz ?_ ?_
  · exact r_X12_lineRead_162 _
  · refine gr_bd (gr_ob 69 (by decide) (by decide) rfl (r_X12_numberRead _ _)) (fun v140 => ?_)
    refine gr_cz ?_ ?_
    · refine gr_gfp 69 83 (by decide) (by decide) rfl rfl (by decide) ?_
      refine gr_gf 69 (by decide) (by decide) rfl (by decide) rfl (fun v154 => ?_)
      refine gr_as 83 24 (by decide) (by decide) rfl (by decide) rfl rfl ?_
      refine gr_bd (gr_ob 69 (by decide) (by decide) rfl (r_X12_take)) (fun _ => ?_)
      exact r_X12_lineRead_162 _
    · exact gr_ret _
def g_X12_lineRead_84 (x1 : Int) : gM Int :=
  gget (-6922) (fun v90 => gas 80 24 (x1) (v90) (gbd (g_X12_isKey 1) (fun v96 => gcz (v96) ((¬ (v96 = 0))) (g_X12_lineRead_116 x1) (gbd (g_X12_isKey 2) (fun v104 => gcz (v104) ((¬ (v104 = 0))) (g_X12_lineRead_116 x1) (gbd (g_X12_wrong 1) (fun v112 => gck ((v112 = 0) ∨ (v112 = 1)) (gret (v112)))))))))
set_option maxRecDepth 20000 in
theorem r_X12_lineRead_84 (x1 : Int) : gr (f_X12_lineRead_84 69 x1) (g_X12_lineRead_84 x1) := by
  unfold f_X12_lineRead_84 g_X12_lineRead_84
  refine gr_gfp 69 80 (by decide) (by decide) rfl rfl (by decide) ?_
  refine gr_gf 69 (by decide) (by decide) rfl (by decide) rfl (fun v90 => ?_)
  refine gr_as 80 24 (by decide) (by decide) rfl (by decide) rfl rfl ?_
  refine gr_bd (gr_ob 69 (by decide) (by decide) rfl (r_X12_isKey _)) (fun v96 => ?_)
  refine gr_cz ?_ ?_
  · exact r_X12_lineRead_116 _
  · refine gr_bd (gr_ob 69 (by decide) (by decide) rfl (r_X12_isKey _)) (fun v104 => ?_)
    refine gr_cz ?_ ?_
    · exact r_X12_lineRead_116 _
    · refine gr_bd (gr_ob 69 (by decide) (by decide) rfl (r_X12_wrong _)) (fun v112 => ?_)
      refine gr_ck (fun _ => ?_)
      exact gr_ret _
def g_X12_lineRead_30  : gM Int :=
  gget (-6921) (fun v31 => gcb (v31) (12) ((¬ (v31 = 12))) (gget (-6921) (fun v48 => glet ((12 + v48)) (fun x1_52 => gget (-6922) (fun v59 => gas 79 24 (x1_52) (v59) (gbd (g_X12_isKey 0) (fun v65 => gcz (v65) ((v65 = 0)) (g_X12_lineRead_84 x1_52) (gbd (g_X12_take) (fun _ => gbd (g_X12_sumRead) (fun v76 => gcz (v76) ((¬ (v76 = 0))) (g_X12_lineRead_84 x1_52) (gret (0))))))))))) (gbd (g_X12_wrong 2) (fun v41 => gck ((v41 = 0) ∨ (v41 = 1)) (gret (v41)))))
set_option maxRecDepth 20000 in
theorem r_X12_lineRead_30  : gr (f_X12_lineRead_30 69) (g_X12_lineRead_30 ) := by
  unfold f_X12_lineRead_30 g_X12_lineRead_30
  refine gr_gf 69 (by decide) (by decide) rfl (by decide) rfl (fun v31 => ?_)
  refine gr_cb ?_ ?_
  · refine gr_gf 69 (by decide) (by decide) rfl (by decide) rfl (fun v48 => ?_)
    refine gr_let (fun x1_52 => ?_)
    refine gr_gfp 69 79 (by decide) (by decide) rfl rfl (by decide) ?_
    refine gr_gf 69 (by decide) (by decide) rfl (by decide) rfl (fun v59 => ?_)
    refine gr_as 79 24 (by decide) (by decide) rfl (by decide) rfl rfl ?_
    refine gr_bd (gr_ob 69 (by decide) (by decide) rfl (r_X12_isKey _)) (fun v65 => ?_)
    refine gr_cz ?_ ?_
    · exact r_X12_lineRead_84 _
    · refine gr_bd (gr_ob 69 (by decide) (by decide) rfl (r_X12_take)) (fun _ => ?_)
      refine gr_bd (gr_ob 69 (by decide) (by decide) rfl (r_X12_sumRead)) (fun v76 => ?_)
      refine gr_cz ?_ ?_
      · exact r_X12_lineRead_84 _
      · exact gr_ret _
  · refine gr_bd (gr_ob 69 (by decide) (by decide) rfl (r_X12_wrong _)) (fun v41 => ?_)
    refine gr_ck (fun _ => ?_)
    exact gr_ret _
def g_X12_lineRead  : gM Int :=
  gbd (g_X12_isKey 0) (fun v2 => gcz (v2) ((¬ (v2 = 0))) (g_X12_lineRead_30) (gbd (g_X12_isKey 1) (fun v10 => gcz (v10) ((¬ (v10 = 0))) (g_X12_lineRead_30) (gbd (g_X12_isKey 2) (fun v18 => gcz (v18) ((¬ (v18 = 0))) (g_X12_lineRead_30) (gbd (g_X12_wrong 1) (fun v26 => gck ((v26 = 0) ∨ (v26 = 1)) (gret (v26)))))))))
set_option maxRecDepth 20000 in
theorem r_X12_lineRead  : gr (f_X12_lineRead 69) (g_X12_lineRead ) := by
  unfold f_X12_lineRead g_X12_lineRead
  refine gr_bd (gr_ob 69 (by decide) (by decide) rfl (r_X12_isKey _)) (fun v2 => ?_)
  refine gr_cz ?_ ?_
  · exact r_X12_lineRead_30
  · refine gr_bd (gr_ob 69 (by decide) (by decide) rfl (r_X12_isKey _)) (fun v10 => ?_)
    refine gr_cz ?_ ?_
    · exact r_X12_lineRead_30
    · refine gr_bd (gr_ob 69 (by decide) (by decide) rfl (r_X12_isKey _)) (fun v18 => ?_)
      refine gr_cz ?_ ?_
      · exact r_X12_lineRead_30
      · refine gr_bd (gr_ob 69 (by decide) (by decide) rfl (r_X12_wrong _)) (fun v26 => ?_)
        refine gr_ck (fun _ => ?_)
        exact gr_ret _
def gB_X12_plan_64 (rec_64 : Unit → gM Int) : gM Int :=
  gget (-6915) (fun v65 => gcz (v65) ((v65 = 0)) (gput (-6918) (1) (gget (-6921) (fun v87 => gput (-6919) (v87) (gget (-6922) (fun v95 => gput (-6920) (v95) (g_X12_plan_103 0)))))) (gbd (g_X12_lineRead) (fun v72 => gcz (v72) ((¬ (v72 = 0))) (rec_64 ()) (gret ((-1))))))
set_option maxRecDepth 20000 in
theorem rB_X12_plan_64 (frec_64 : Unit → hf_M Int) (rec_64 : Unit → gM Int) (hrec_64 : ∀ s : Unit, gr (frec_64 s) (rec_64 s)) : gr (B_X12_plan_64 69 frec_64) (gB_X12_plan_64 rec_64) := by
  unfold B_X12_plan_64 gB_X12_plan_64
  refine gr_gf 69 (by decide) (by decide) rfl (by decide) rfl (fun v65 => ?_)
  refine gr_cz ?_ ?_
  · refine gr_pf 69 (by decide) (by decide) rfl (by decide) (by decide) rfl rfl ?_
    refine gr_gf 69 (by decide) (by decide) rfl (by decide) rfl (fun v87 => ?_)
    refine gr_pf 69 (by decide) (by decide) rfl (by decide) (by decide) rfl rfl ?_
    refine gr_gf 69 (by decide) (by decide) rfl (by decide) rfl (fun v95 => ?_)
    refine gr_pf 69 (by decide) (by decide) rfl (by decide) (by decide) rfl rfl ?_
    exact r_X12_plan_103 _
  · refine gr_bd (gr_ob 69 (by decide) (by decide) rfl (r_X12_lineRead)) (fun v72 => ?_)
    refine gr_cz ?_ ?_
    · exact hrec_64 _
    · exact gr_ret _
def g_X12_plan_64  : gM Int :=
  gfx (fun rec s => gB_X12_plan_64 rec) hf_N ()
set_option maxRecDepth 20000 in
theorem r_X12_plan_64  : gr (f_X12_plan_64 69) (g_X12_plan_64 ) := by
  unfold f_X12_plan_64 g_X12_plan_64
  refine gr_fx (fun frec rec hrec s => ?_) _ _
  exact rB_X12_plan_64 _ _ hrec
def g_X12_plan (x1 : Int) : gM Int :=
  gput (-6902) (0) (gcz (x1) ((x1 < 0)) (gret ((-2))) (gget (-6901) (fun v11 => gcb (x1) (v11) ((x1 ≤ v11)) (gput (-6913) (x1) (gput (-6901) (0) (gput (-6911) (0) (gput (-6912) ((-1)) (gput (-6914) (0) (gput (-6921) (0) (gput (-6922) (0) (gput (-6936) (0) (gbd (g_X12_take) (fun _ => g_X12_plan_64)))))))))) (gret ((-2))))))
set_option maxRecDepth 20000 in
theorem r_X12_plan (x1 : Int) : gr (f_X12_plan 69 x1) (g_X12_plan x1) := by
  unfold f_X12_plan g_X12_plan
  refine gr_pf 69 (by decide) (by decide) rfl (by decide) (by decide) rfl rfl ?_
  refine gr_cz ?_ ?_
  · exact gr_ret _
  · refine gr_gf 69 (by decide) (by decide) rfl (by decide) rfl (fun v11 => ?_)
    refine gr_cb ?_ ?_
    · refine gr_pf 69 (by decide) (by decide) rfl (by decide) (by decide) rfl rfl ?_
      refine gr_pf 69 (by decide) (by decide) rfl (by decide) (by decide) rfl rfl ?_
      refine gr_pf 69 (by decide) (by decide) rfl (by decide) (by decide) rfl rfl ?_
      refine gr_pf 69 (by decide) (by decide) rfl (by decide) (by decide) rfl rfl ?_
      refine gr_pf 69 (by decide) (by decide) rfl (by decide) (by decide) rfl rfl ?_
      refine gr_pf 69 (by decide) (by decide) rfl (by decide) (by decide) rfl rfl ?_
      refine gr_pf 69 (by decide) (by decide) rfl (by decide) (by decide) rfl rfl ?_
      refine gr_pf 69 (by decide) (by decide) rfl (by decide) (by decide) rfl rfl ?_
      refine gr_bd (gr_ob 69 (by decide) (by decide) rfl (r_X12_take)) (fun _ => ?_)
      exact r_X12_plan_64
    · exact gr_ret _
def g_X11_fault (x1 : Int) : gM Int :=
  gck (hf_inI x1) (git ((x1 = 0)) (gget (-811) (fun v32 => gret (v32))) (git ((x1 = 1)) (gget (-812) (fun v40 => gret (v40))) (gret ((-1)))))
set_option maxRecDepth 20000 in
theorem r_X11_fault (x1 : Int) : gr (f_X11_fault 1 x1) (g_X11_fault x1) := by
  unfold f_X11_fault g_X11_fault
  refine gr_ck (fun _ => ?_)
  refine gr_it ?_ ?_
  · refine gr_gfp 1 8 (by decide) (by decide) rfl rfl (by decide) ?_
    refine gr_gf 8 (by decide) (by decide) rfl (by decide) rfl (fun v32 => ?_)
    exact gr_ret _
  · refine gr_it ?_ ?_
    · refine gr_gfp 1 8 (by decide) (by decide) rfl rfl (by decide) ?_
      refine gr_gf 8 (by decide) (by decide) rfl (by decide) rfl (fun v40 => ?_)
      exact gr_ret _
    · exact gr_ret _
