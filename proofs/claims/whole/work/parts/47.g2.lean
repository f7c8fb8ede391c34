/-! THE PROGRAMS AT THEIR OBJECTS: printed by gen2.py -/
def g_X0_fillAgain_41 (rec_2 : Int → gM Int) (x1 : Int) (x2 : Int) (x3 : Int) : gM Int :=
  glet ((x3 + 1)) (fun x3_41 => rec_2 x3_41)
set_option maxRecDepth 20000 in
theorem r_X0_fillAgain_41 (frec_2 : Int → hf_M Int) (rec_2 : Int → gM Int) (hrec_2 : ∀ s : Int, gr (frec_2 s) (rec_2 s)) (x1 : Int) (x2 : Int) (x3 : Int) : gr (f_X0_fillAgain_41 frec_2 39 x1 x2 x3) (g_X0_fillAgain_41 rec_2 x1 x2 x3) := by
  unfold f_X0_fillAgain_41 g_X0_fillAgain_41
  refine gr_let (fun x3_41 => ?_)
  exact hrec_2 _
def g_X0_fillAgain_38 (rec_2 : Int → gM Int) (x1 : Int) (x2 : Int) (x3 : Int) (s1 : Int) (s2 : Int) : gM Int :=
  gbd (g_X0_fillRow s1 s2) (fun _ => g_X0_fillAgain_41 rec_2 x1 x2 x3)
set_option maxRecDepth 20000 in
theorem r_X0_fillAgain_38 (frec_2 : Int → hf_M Int) (rec_2 : Int → gM Int) (hrec_2 : ∀ s : Int, gr (frec_2 s) (rec_2 s)) (x1 : Int) (x2 : Int) (x3 : Int) (s1 : Int) (s2 : Int) : gr (f_X0_fillAgain_38 frec_2 39 x1 x2 x3 39 s1 s2) (g_X0_fillAgain_38 rec_2 x1 x2 x3 s1 s2) := by
  unfold f_X0_fillAgain_38 g_X0_fillAgain_38
  refine gr_bd (gr_ob 39 (by decide) (by decide) rfl (r_X0_fillRow _ _)) (fun _ => ?_)
  exact r_X0_fillAgain_41 frec_2 rec_2 hrec_2 _ _ _
def gB_X0_fillAgain_2 (x1 : Int) (x2 : Int) (rec_2 : Int → gM Int) (x3 : Int) : gM Int :=
  gcb (x3) (x1) ((x1 < x3)) (gret (0)) (gbd (g_X0_isPartOf x3 x1) (fun v9 => gcz (v9) ((v9 = 0)) (g_X0_fillAgain_41 rec_2 x1 x2 x3) (gbd (g_X0_piecesIn x3 x2) (fun v17 => gcz (v17) ((v17 ≤ 0)) (g_X0_fillAgain_41 rec_2 x1 x2 x3) (gcb (x3) (x1) ((¬ (x3 = x1))) (g_X0_fillAgain_38 rec_2 x1 x2 x3 x3 0) (gget (-3905) (fun v31 => g_X0_fillAgain_38 rec_2 x1 x2 x3 x3 v31)))))))
set_option maxRecDepth 20000 in
theorem rB_X0_fillAgain_2 (x1 : Int) (x2 : Int) (frec_2 : Int → hf_M Int) (rec_2 : Int → gM Int) (hrec_2 : ∀ s : Int, gr (frec_2 s) (rec_2 s)) (x3 : Int) : gr (B_X0_fillAgain_2 39 x1 x2 frec_2 x3) (gB_X0_fillAgain_2 x1 x2 rec_2 x3) := by
  unfold B_X0_fillAgain_2 gB_X0_fillAgain_2
  refine gr_cb ?_ ?_
  · exact gr_ret _
  · refine gr_bd (r_X0_isPartOf _ _) (fun v9 => ?_)
    refine gr_cz ?_ ?_
    · exact r_X0_fillAgain_41 frec_2 rec_2 hrec_2 _ _ _
    · refine gr_bd (r_X0_piecesIn _ _) (fun v17 => ?_)
      refine gr_cz ?_ ?_
      · exact r_X0_fillAgain_41 frec_2 rec_2 hrec_2 _ _ _
      · refine gr_cb ?_ ?_
        · exact r_X0_fillAgain_38 frec_2 rec_2 hrec_2 _ _ _ _ _
        · refine gr_gf 39 (by decide) (by decide) rfl (by decide) rfl (fun v31 => ?_)
          exact r_X0_fillAgain_38 frec_2 rec_2 hrec_2 _ _ _ _ _
def g_X0_fillAgain_2 (x1 : Int) (x2 : Int) (x3 : Int) : gM Int :=
  gfx (fun rec s => gB_X0_fillAgain_2 x1 x2 rec s) hf_N x3
set_option maxRecDepth 20000 in
theorem r_X0_fillAgain_2 (x1 : Int) (x2 : Int) (x3 : Int) : gr (f_X0_fillAgain_2 39 x1 x2 x3) (g_X0_fillAgain_2 x1 x2 x3) := by
  unfold f_X0_fillAgain_2 g_X0_fillAgain_2
  refine gr_fx (fun frec rec hrec s => ?_) _ _
  exact rB_X0_fillAgain_2 _ _ _ _ hrec _
def g_X0_fillAgain (x1 : Int) (x2 : Int) : gM Int :=
  g_X0_fillAgain_2 x1 x2 0
set_option maxRecDepth 20000 in
theorem r_X0_fillAgain (x1 : Int) (x2 : Int) : gr (f_X0_fillAgain 39 x1 x2) (g_X0_fillAgain x1 x2) := by
  unfold f_X0_fillAgain g_X0_fillAgain
  exact r_X0_fillAgain_2 _ _ _
def g_X0_seek_62 (x1 : Int) (x4 : Int) (s0 : Int) : gM Int :=
  gck (hf_inI s0) (glet ((if (s0 = 0) then (-2) else x4)) (fun w81 => gas 45 100 (x1) (w81) (gret (0))))
set_option maxRecDepth 20000 in
theorem r_X0_seek_62 (x1 : Int) (x4 : Int) (s0 : Int) : gr (f_X0_seek_62 39 x1 x4 s0) (g_X0_seek_62 x1 x4 s0) := by
  unfold f_X0_seek_62 g_X0_seek_62
  refine gr_gfp 39 45 (by decide) (by decide) rfl rfl (by decide) ?_
  refine gr_ck (fun _ => ?_)
  refine gr_let (fun w81 => ?_)
  refine gr_as 45 100 (by decide) (by decide) rfl (by decide) rfl rfl ?_
  exact gr_ret _
def g_X0_seek (x1 : Int) (x2 : Int) (x3 : Int) : gM Int :=
  gal 45 100 (x1) (fun v5 => gcb (v5) ((-1)) ((¬ (v5 = (-1)))) (gret (0)) (gas 43 3 (x2) (x1) (gbd (g_X0_fillAgain x3 x2) (fun _ => gget (-3905) (fun v27 => gbd (g_X0_pick x3 0 v27) (fun v30 => gget (-3916) (fun v36 => gget (-3913) (fun v40 => gcb (v36) (v40) ((¬ (v36 = v40))) (g_X0_seek_62 x1 v30 0) (gget (-3917) (fun v47 => gget (-3914) (fun v51 => gcb (v47) (v51) ((¬ (v47 = v51))) (g_X0_seek_62 x1 v30 0) (g_X0_seek_62 x1 v30 1))))))))))))
set_option maxRecDepth 20000 in
theorem r_X0_seek (x1 : Int) (x2 : Int) (x3 : Int) : gr (f_X0_seek 39 x1 x2 x3) (g_X0_seek x1 x2 x3) := by
  unfold f_X0_seek g_X0_seek
  refine gr_gfp 39 45 (by decide) (by decide) rfl rfl (by decide) ?_
  refine gr_al 45 100 (by decide) (by decide) rfl (by decide) rfl (fun v5 => ?_)
  refine gr_cb ?_ ?_
  · exact gr_ret _
  · refine gr_gfp 39 43 (by decide) (by decide) rfl rfl (by decide) ?_
    refine gr_as 43 3 (by decide) (by decide) rfl (by decide) rfl rfl ?_
    refine gr_bd (gr_ob 39 (by decide) (by decide) rfl (r_X0_fillAgain _ _)) (fun _ => ?_)
    refine gr_gf 39 (by decide) (by decide) rfl (by decide) rfl (fun v27 => ?_)
    refine gr_bd (gr_ob 39 (by decide) (by decide) rfl (r_X0_pick _ _ _)) (fun v30 => ?_)
    refine gr_gf 39 (by decide) (by decide) rfl (by decide) rfl (fun v36 => ?_)
    refine gr_gf 39 (by decide) (by decide) rfl (by decide) rfl (fun v40 => ?_)
    refine gr_cb ?_ ?_
    · exact r_X0_seek_62 _ _ _
    · refine gr_gf 39 (by decide) (by decide) rfl (by decide) rfl (fun v47 => ?_)
      refine gr_gf 39 (by decide) (by decide) rfl (by decide) rfl (fun v51 => ?_)
      refine gr_cb ?_ ?_
      · exact r_X0_seek_62 _ _ _
      · exact r_X0_seek_62 _ _ _
def g_X0_edgeOf_209 (rec_51 : Int × Int × Int × Int → gM Int) (x1 : Int) (x2 : Int) (x3 : Int) (x4 : Int) (x5 : Int) (x6 : Int) : gM Int :=
  glet ((x6 + 1)) (fun x6_209 => rec_51 (x3, x4, x5, x6_209))
set_option maxRecDepth 20000 in
theorem r_X0_edgeOf_209 (frec_51 : Int × Int × Int × Int → hf_M Int) (rec_51 : Int × Int × Int × Int → gM Int) (hrec_51 : ∀ s : Int × Int × Int × Int, gr (frec_51 s) (rec_51 s)) (x1 : Int) (x2 : Int) (x3 : Int) (x4 : Int) (x5 : Int) (x6 : Int) : gr (f_X0_edgeOf_209 frec_51 39 x1 x2 x3 x4 x5 x6) (g_X0_edgeOf_209 rec_51 x1 x2 x3 x4 x5 x6) := by
  unfold f_X0_edgeOf_209 g_X0_edgeOf_209
  refine gr_let (fun x6_209 => ?_)
  exact hrec_51 _
def g_X0_edgeOf_189 (rec_51 : Int × Int × Int × Int → gM Int) (x1 : Int) (x2 : Int) (x4 : Int) (x5 : Int) (x6 : Int) (x7 : Int) : gM Int :=
  glet ((x4 * 2)) (fun x4_196 => g_X0_edgeOf_209 rec_51 x1 x2 x7 x4_196 x5 x6)
set_option maxRecDepth 20000 in
theorem r_X0_edgeOf_189 (frec_51 : Int × Int × Int × Int → hf_M Int) (rec_51 : Int × Int × Int × Int → gM Int) (hrec_51 : ∀ s : Int × Int × Int × Int, gr (frec_51 s) (rec_51 s)) (x1 : Int) (x2 : Int) (x4 : Int) (x5 : Int) (x6 : Int) (x7 : Int) : gr (f_X0_edgeOf_189 frec_51 39 x1 x2 x4 x5 x6 x7) (g_X0_edgeOf_189 rec_51 x1 x2 x4 x5 x6 x7) := by
  unfold f_X0_edgeOf_189 g_X0_edgeOf_189
  refine gr_let (fun x4_196 => ?_)
  exact r_X0_edgeOf_209 frec_51 rec_51 hrec_51 _ _ _ _ _ _
def g_X0_staysBetween (x1 : Int) (x2 : Int) (x3 : Int) : gM Int :=
  gal 45 100 (x3) (fun v5 => gcb (v5) ((-2)) ((¬ (v5 = (-2)))) (gal 45 100 (x3) (fun v18 => gal 45 100 (x1) (fun v24 => gcb (v18) (v24) ((¬ (v18 = v24))) (gget (-3906) (fun v31 => gcz (v31) ((v31 = 0)) (gret (0)) (gal 45 100 (x2) (fun v42 => gcb (v42) ((-2)) ((¬ (v42 = (-2)))) (gal 45 100 (x2) (fun v55 => gal 45 100 (x1) (fun v61 => gck (hf_inI (v55 - v61)) (glet ((v55 - v61)) (fun x4_64 => gal 45 100 (x3) (fun v71 => gal 45 100 (x2) (fun v77 => gck (hf_inI (v71 - v77)) (glet ((v71 - v77)) (fun x6_80 => gck (hf_inI (x3 - x2)) (gck (hf_inI (x2 - x1)) (gck ((hf_inL (x4_64 * (x3 - x2))) ∧ (hf_inL (x6_80 * (x2 - x1)))) (glet ((if (¬ ((x4_64 * (x3 - x2)) = (x6_80 * (x2 - x1)))) then 0 else 1)) (fun w105 => gck ((w105 = 0) ∨ (w105 = 1)) (gret (w105))))))))))))))) (gret (0)))))) (gret (1))))) (gret (0)))
set_option maxRecDepth 20000 in
theorem r_X0_staysBetween (x1 : Int) (x2 : Int) (x3 : Int) : gr (f_X0_staysBetween 39 x1 x2 x3) (g_X0_staysBetween x1 x2 x3) := by
  unfold f_X0_staysBetween g_X0_staysBetween
  refine gr_gfp 39 45 (by decide) (by decide) rfl rfl (by decide) ?_
  refine gr_al 45 100 (by decide) (by decide) rfl (by decide) rfl (fun v5 => ?_)
  refine gr_cb ?_ ?_
  · refine gr_gfp 39 45 (by decide) (by decide) rfl rfl (by decide) ?_
    refine gr_al 45 100 (by decide) (by decide) rfl (by decide) rfl (fun v18 => ?_)
    refine gr_gfp 39 45 (by decide) (by decide) rfl rfl (by decide) ?_
    refine gr_al 45 100 (by decide) (by decide) rfl (by decide) rfl (fun v24 => ?_)
    refine gr_cb ?_ ?_
    · refine gr_gf 39 (by decide) (by decide) rfl (by decide) rfl (fun v31 => ?_)
      refine gr_cz ?_ ?_
      · exact gr_ret _
      · refine gr_gfp 39 45 (by decide) (by decide) rfl rfl (by decide) ?_
        refine gr_al 45 100 (by decide) (by decide) rfl (by decide) rfl (fun v42 => ?_)
        refine gr_cb ?_ ?_
        · refine gr_gfp 39 45 (by decide) (by decide) rfl rfl (by decide) ?_
          refine gr_al 45 100 (by decide) (by decide) rfl (by decide) rfl (fun v55 => ?_)
          refine gr_gfp 39 45 (by decide) (by decide) rfl rfl (by decide) ?_
          refine gr_al 45 100 (by decide) (by decide) rfl (by decide) rfl (fun v61 => ?_)
          refine gr_ck (fun _ => ?_)
          refine gr_let (fun x4_64 => ?_)
          refine gr_gfp 39 45 (by decide) (by decide) rfl rfl (by decide) ?_
          refine gr_al 45 100 (by decide) (by decide) rfl (by decide) rfl (fun v71 => ?_)
          refine gr_gfp 39 45 (by decide) (by decide) rfl rfl (by decide) ?_
          refine gr_al 45 100 (by decide) (by decide) rfl (by decide) rfl (fun v77 => ?_)
          refine gr_ck (fun _ => ?_)
          refine gr_let (fun x6_80 => ?_)
          refine gr_ck (fun _ => ?_)
          refine gr_ck (fun _ => ?_)
          refine gr_ck (fun _ => ?_)
          refine gr_let (fun w105 => ?_)
          refine gr_ck (fun _ => ?_)
          exact gr_ret _
        · exact gr_ret _
    · exact gr_ret _
  · exact gr_ret _
def g_X0_edgeOf_169 (rec_51 : Int × Int × Int × Int → gM Int) (x1 : Int) (x2 : Int) (x3 : Int) (x4 : Int) (x5 : Int) (x6 : Int) (x7 : Int) (x8 : Int) : gM Int :=
  gcb (x7) ((x3 + 1)) ((x7 = (x3 + 1))) (g_X0_edgeOf_189 rec_51 x1 x2 x4 x5 x6 x7) (gbd (g_X0_staysBetween x3 x8 x7) (fun v183 => gcz (v183) ((v183 = 0)) (gdv ((x7 - x3)) (2) (fun v206 => g_X0_edgeOf_209 rec_51 x1 x2 x3 v206 x5 x6)) (g_X0_edgeOf_189 rec_51 x1 x2 x4 x5 x6 x7)))
set_option maxRecDepth 20000 in
theorem r_X0_edgeOf_169 (frec_51 : Int × Int × Int × Int → hf_M Int) (rec_51 : Int × Int × Int × Int → gM Int) (hrec_51 : ∀ s : Int × Int × Int × Int, gr (frec_51 s) (rec_51 s)) (x1 : Int) (x2 : Int) (x3 : Int) (x4 : Int) (x5 : Int) (x6 : Int) (x7 : Int) (x8 : Int) : gr (f_X0_edgeOf_169 frec_51 39 x1 x2 x3 x4 x5 x6 x7 x8) (g_X0_edgeOf_169 rec_51 x1 x2 x3 x4 x5 x6 x7 x8) := by
  unfold f_X0_edgeOf_169 g_X0_edgeOf_169
  refine gr_cb ?_ ?_
  · exact r_X0_edgeOf_189 frec_51 rec_51 hrec_51 _ _ _ _ _ _
  · refine gr_bd (gr_ob 39 (by decide) (by decide) rfl (r_X0_staysBetween _ _ _)) (fun v183 => ?_)
    refine gr_cz ?_ ?_
    · refine gr_dv (fun v206 => ?_)
      exact r_X0_edgeOf_209 frec_51 rec_51 hrec_51 _ _ _ _ _ _
    · exact r_X0_edgeOf_189 frec_51 rec_51 hrec_51 _ _ _ _ _ _
def g_X0_edgeOf_142 (rec_51 : Int × Int × Int × Int → gM Int) (x1 : Int) (x2 : Int) (x3 : Int) (x4 : Int) (x5 : Int) (x6 : Int) (x7 : Int) (x8 : Int) : gM Int :=
  gcb (x7) ((x3 + 1)) ((¬ (x7 = (x3 + 1)))) (g_X0_edgeOf_169 rec_51 x1 x2 x3 x4 x5 x6 x7 x8) (gal 45 100 (x7) (fun v156 => gcb (v156) ((-2)) ((¬ (v156 = (-2)))) (g_X0_edgeOf_169 rec_51 x1 x2 x3 x4 x5 x6 x7 x8) (g_X0_edgeOf_209 rec_51 x1 x2 x3 x4 x7 x6)))
set_option maxRecDepth 20000 in
theorem r_X0_edgeOf_142 (frec_51 : Int × Int × Int × Int → hf_M Int) (rec_51 : Int × Int × Int × Int → gM Int) (hrec_51 : ∀ s : Int × Int × Int × Int, gr (frec_51 s) (rec_51 s)) (x1 : Int) (x2 : Int) (x3 : Int) (x4 : Int) (x5 : Int) (x6 : Int) (x7 : Int) (x8 : Int) : gr (f_X0_edgeOf_142 frec_51 39 x1 x2 x3 x4 x5 x6 x7 x8) (g_X0_edgeOf_142 rec_51 x1 x2 x3 x4 x5 x6 x7 x8) := by
  unfold f_X0_edgeOf_142 g_X0_edgeOf_142
  refine gr_cb ?_ ?_
  · exact r_X0_edgeOf_169 frec_51 rec_51 hrec_51 _ _ _ _ _ _ _ _
  · refine gr_gfp 39 45 (by decide) (by decide) rfl rfl (by decide) ?_
    refine gr_al 45 100 (by decide) (by decide) rfl (by decide) rfl (fun v156 => ?_)
    refine gr_cb ?_ ?_
    · exact r_X0_edgeOf_169 frec_51 rec_51 hrec_51 _ _ _ _ _ _ _ _
    · exact r_X0_edgeOf_209 frec_51 rec_51 hrec_51 _ _ _ _ _ _
def gB_X0_edgeOf_51 (x1 : Int) (x2 : Int) (rec_51 : Int × Int × Int × Int → gM Int) (x3 : Int) (x4 : Int) (x5 : Int) (x6 : Int) : gM Int :=
  gcb (x6) (990) ((990 ≤ x6)) (g_X0_edgeOf_215 x5) (gcb (x3) (99) ((99 ≤ x3)) (g_X0_edgeOf_215 x5) (gcb (x5) (99) ((x5 ≤ 99)) (g_X0_edgeOf_215 x5) (gck ((hf_inI 99) ∧ (hf_inI (x3 + x4))) (glet ((min 99 (x3 + x4))) (fun v78 => gdv ((x3 + v78)) (2) (fun v88 => gbd (g_X0_seek v78 x1 x2) (fun _ => gget (-3906) (fun v100 => gcz (v100) ((v100 = 0)) (g_X0_edgeOf_142 rec_51 x1 x2 x3 x4 x5 x6 v78 v88) (gal 45 100 (v78) (fun v112 => gcb (v112) ((-2)) ((v112 = (-2))) (g_X0_edgeOf_142 rec_51 x1 x2 x3 x4 x5 x6 v78 v88) (gal 45 100 (v78) (fun v124 => gal 45 100 (x3) (fun v130 => gcb (v124) (v130) ((v124 = v130)) (g_X0_edgeOf_142 rec_51 x1 x2 x3 x4 x5 x6 v78 v88) (gbd (g_X0_seek v88 x1 x2) (fun _ => g_X0_edgeOf_142 rec_51 x1 x2 x3 x4 x5 x6 v78 v88)))))))))))))))
set_option maxRecDepth 20000 in
theorem rB_X0_edgeOf_51 (x1 : Int) (x2 : Int) (frec_51 : Int × Int × Int × Int → hf_M Int) (rec_51 : Int × Int × Int × Int → gM Int) (hrec_51 : ∀ s : Int × Int × Int × Int, gr (frec_51 s) (rec_51 s)) (x3 : Int) (x4 : Int) (x5 : Int) (x6 : Int) : gr (B_X0_edgeOf_51 39 x1 x2 frec_51 x3 x4 x5 x6) (gB_X0_edgeOf_51 x1 x2 rec_51 x3 x4 x5 x6) := by
  unfold B_X0_edgeOf_51 gB_X0_edgeOf_51
  refine gr_cb ?_ ?_
  · exact r_X0_edgeOf_215 _
  · refine gr_cb ?_ ?_
    · exact r_X0_edgeOf_215 _
    · refine gr_cb ?_ ?_
      · exact r_X0_edgeOf_215 _
      · refine gr_ck (fun _ => ?_)
        refine gr_let (fun v78 => ?_)
        refine gr_dv (fun v88 => ?_)
        refine gr_bd (gr_ob 39 (by decide) (by decide) rfl (r_X0_seek _ _ _)) (fun _ => ?_)
        refine gr_gf 39 (by decide) (by decide) rfl (by decide) rfl (fun v100 => ?_)
        refine gr_cz ?_ ?_
        · exact r_X0_edgeOf_142 frec_51 rec_51 hrec_51 _ _ _ _ _ _ _ _
        · refine gr_gfp 39 45 (by decide) (by decide) rfl rfl (by decide) ?_
          refine gr_al 45 100 (by decide) (by decide) rfl (by decide) rfl (fun v112 => ?_)
          refine gr_cb ?_ ?_
          · exact r_X0_edgeOf_142 frec_51 rec_51 hrec_51 _ _ _ _ _ _ _ _
          · refine gr_gfp 39 45 (by decide) (by decide) rfl rfl (by decide) ?_
            refine gr_al 45 100 (by decide) (by decide) rfl (by decide) rfl (fun v124 => ?_)
            refine gr_gfp 39 45 (by decide) (by decide) rfl rfl (by decide) ?_
            refine gr_al 45 100 (by decide) (by decide) rfl (by decide) rfl (fun v130 => ?_)
            refine gr_cb ?_ ?_
            · exact r_X0_edgeOf_142 frec_51 rec_51 hrec_51 _ _ _ _ _ _ _ _
            · refine gr_bd (gr_ob 39 (by decide) (by decide) rfl (r_X0_seek _ _ _)) (fun _ => ?_)
              exact r_X0_edgeOf_142 frec_51 rec_51 hrec_51 _ _ _ _ _ _ _ _
def g_X0_edgeOf_51 (x1 : Int) (x2 : Int) (x3 : Int) (x4 : Int) (x5 : Int) (x6 : Int) : gM Int :=
  gfx (fun rec s => gB_X0_edgeOf_51 x1 x2 rec s.1 s.2.1 s.2.2.1 s.2.2.2) hf_N (x3, x4, x5, x6)
set_option maxRecDepth 20000 in
theorem r_X0_edgeOf_51 (x1 : Int) (x2 : Int) (x3 : Int) (x4 : Int) (x5 : Int) (x6 : Int) : gr (f_X0_edgeOf_51 39 x1 x2 x3 x4 x5 x6) (g_X0_edgeOf_51 x1 x2 x3 x4 x5 x6) := by
  unfold f_X0_edgeOf_51 g_X0_edgeOf_51
  refine gr_fx (fun frec rec hrec s => ?_) _ _
  exact rB_X0_edgeOf_51 _ _ _ _ hrec _ _ _ _
def g_X0_edgeOf (x1 : Int) (x2 : Int) : gM Int :=
  gget (-3916) (fun v2 => gput (-3913) (v2) (gget (-3917) (fun v10 => gput (-3914) (v10) (gbd (g_J7_fill_o45 (-1)) (fun _ => gal 43 3 (x1) (fun v29 => gget (-3915) (fun v37 => gas 45 100 (v29) (v37) (g_X0_edgeOf_51 x1 x2 v29 1 100 0))))))))
set_option maxRecDepth 20000 in
theorem r_X0_edgeOf (x1 : Int) (x2 : Int) : gr (f_X0_edgeOf 39 x1 x2) (g_X0_edgeOf x1 x2) := by
  unfold f_X0_edgeOf g_X0_edgeOf
  refine gr_gf 39 (by decide) (by decide) rfl (by decide) rfl (fun v2 => ?_)
  refine gr_pf 39 (by decide) (by decide) rfl (by decide) (by decide) rfl rfl ?_
  refine gr_gf 39 (by decide) (by decide) rfl (by decide) rfl (fun v10 => ?_)
  refine gr_pf 39 (by decide) (by decide) rfl (by decide) (by decide) rfl rfl ?_
  refine gr_gfp 39 45 (by decide) (by decide) rfl rfl (by decide) ?_
  refine gr_bd (r_J7_fill_o45 _) (fun _ => ?_)
  refine gr_gfp 39 43 (by decide) (by decide) rfl rfl (by decide) ?_
  refine gr_al 43 3 (by decide) (by decide) rfl (by decide) rfl (fun v29 => ?_)
  refine gr_gfp 39 45 (by decide) (by decide) rfl rfl (by decide) ?_
  refine gr_gf 39 (by decide) (by decide) rfl (by decide) rfl (fun v37 => ?_)
  refine gr_as 45 100 (by decide) (by decide) rfl (by decide) rfl rfl ?_
  exact r_X0_edgeOf_51 _ _ _ _ _ _
def g_X11_edge (x1 : Int) (x2 : Int) : gM Int :=
  gbd (g_X8_hasKind x1) (fun v5 => gcz (v5) ((v5 = 0)) (gret ((-1))) (gbd (g_X11_isWithin x2 3) (fun v13 => gcz (v13) ((¬ (v13 = 0))) (gbd (g_X0_prepare x2) (fun _ => gget (-200) (fun v42 => gbd (g_X8_allPieces) (fun v49 => gbd (g_X0_valueOf 0 v42 v49) (fun v52 => gcl (v52) (0) ((v52 < 0)) (gret ((-2))) (gget (-3916) (fun v64 => gcb (v64) ((-1)) ((¬ (v64 = (-1)))) (gcb (x2) (2) ((x2 < 2)) (gret (100)) (gal 4 3 (x1) (fun v87 => gcz (v87) ((¬ (v87 = 0))) (gbd (g_X8_allPieces) (fun v103 => gbd (g_X0_edgeOf x1 v103) (fun v106 => gret (v106)))) (gret (100))))) (gret ((-2)))))))))) (gret ((-1))))))
set_option maxRecDepth 20000 in
theorem r_X11_edge (x1 : Int) (x2 : Int) : gr (f_X11_edge 1 x1 x2) (g_X11_edge x1 x2) := by
  unfold f_X11_edge g_X11_edge
  refine gr_gfp 1 2 (by decide) (by decide) rfl rfl (by decide) ?_
  refine gr_bd (gr_ob 2 (by decide) (by decide) rfl (r_X8_hasKind _)) (fun v5 => ?_)
  refine gr_cz ?_ ?_
  · exact gr_ret _
  · refine gr_bd (r_X11_isWithin _ _) (fun v13 => ?_)
    refine gr_cz ?_ ?_
    · refine gr_gfp 1 39 (by decide) (by decide) rfl rfl (by decide) ?_
      refine gr_gfp 1 2 (by decide) (by decide) rfl rfl (by decide) ?_
      refine gr_bd (gr_ob 39 (by decide) (by decide) rfl (r_X0_prepare _)) (fun _ => ?_)
      refine gr_gfp 1 39 (by decide) (by decide) rfl rfl (by decide) ?_
      refine gr_gfp 1 2 (by decide) (by decide) rfl rfl (by decide) ?_
      refine gr_gf 2 (by decide) (by decide) rfl (by decide) rfl (fun v42 => ?_)
      refine gr_gfp 1 2 (by decide) (by decide) rfl rfl (by decide) ?_
      refine gr_bd (gr_ob 2 (by decide) (by decide) rfl (r_X8_allPieces)) (fun v49 => ?_)
      refine gr_bd (gr_ob 39 (by decide) (by decide) rfl (r_X0_valueOf _ _ _)) (fun v52 => ?_)
      refine gr_cl ?_ ?_
      · exact gr_ret _
      · refine gr_gfp 1 39 (by decide) (by decide) rfl rfl (by decide) ?_
        refine gr_gf 39 (by decide) (by decide) rfl (by decide) rfl (fun v64 => ?_)
        refine gr_cb ?_ ?_
        · refine gr_cb ?_ ?_
          · exact gr_ret _
          · refine gr_gfp 1 2 (by decide) (by decide) rfl rfl (by decide) ?_
            refine gr_gfp 2 4 (by decide) (by decide) rfl rfl (by decide) ?_
            refine gr_al 4 3 (by decide) (by decide) rfl (by decide) rfl (fun v87 => ?_)
            refine gr_cz ?_ ?_
            · refine gr_gfp 1 39 (by decide) (by decide) rfl rfl (by decide) ?_
              refine gr_gfp 1 2 (by decide) (by decide) rfl rfl (by decide) ?_
              refine gr_bd (gr_ob 2 (by decide) (by decide) rfl (r_X8_allPieces)) (fun v103 => ?_)
              refine gr_bd (gr_ob 39 (by decide) (by decide) rfl (r_X0_edgeOf _ _)) (fun v106 => ?_)
              exact gr_ret _
            · exact gr_ret _
        · exact gr_ret _
    · exact gr_ret _
def g_X12_edge_146 (x1 : Int) (x3 : Int) (x6 : Int) : gM Int :=
  gas 73 3 (x1) (x3) (gret (x6))
set_option maxRecDepth 20000 in
theorem r_X12_edge_146 (x1 : Int) (x3 : Int) (x6 : Int) : gr (f_X12_edge_146 69 x1 x3 x6) (g_X12_edge_146 x1 x3 x6) := by
  unfold f_X12_edge_146 g_X12_edge_146
  refine gr_gfp 69 73 (by decide) (by decide) rfl rfl (by decide) ?_
  refine gr_as 73 3 (by decide) (by decide) rfl (by decide) rfl rfl ?_
  exact gr_ret _
def g_X12_edge_140 (rec_75 : Int × Int → gM Int) (x1 : Int) (x2 : Int) (x3 : Int) (x4 : Int) (x5 : Int) (x6 : Int) (x7 : Int) : gM Int :=
  glet ((x7 + 1)) (fun x7_140 => rec_75 (x6, x7_140))
set_option maxRecDepth 20000 in
theorem r_X12_edge_140 (frec_75 : Int × Int → hf_M Int) (rec_75 : Int × Int → gM Int) (hrec_75 : ∀ s : Int × Int, gr (frec_75 s) (rec_75 s)) (x1 : Int) (x2 : Int) (x3 : Int) (x4 : Int) (x5 : Int) (x6 : Int) (x7 : Int) : gr (f_X12_edge_140 frec_75 69 x1 x2 x3 x4 x5 x6 x7) (g_X12_edge_140 rec_75 x1 x2 x3 x4 x5 x6 x7) := by
  unfold f_X12_edge_140 g_X12_edge_140
  refine gr_let (fun x7_140 => ?_)
  exact hrec_75 _
def g_X12_edge_136 (rec_75 : Int × Int → gM Int) (x1 : Int) (x2 : Int) (x3 : Int) (x4 : Int) (x5 : Int) (x7 : Int) : gM Int :=
  g_X12_edge_140 rec_75 x1 x2 x3 x4 x5 x7 x7
set_option maxRecDepth 20000 in
theorem r_X12_edge_136 (frec_75 : Int × Int → hf_M Int) (rec_75 : Int × Int → gM Int) (hrec_75 : ∀ s : Int × Int, gr (frec_75 s) (rec_75 s)) (x1 : Int) (x2 : Int) (x3 : Int) (x4 : Int) (x5 : Int) (x7 : Int) : gr (f_X12_edge_136 frec_75 69 x1 x2 x3 x4 x5 x7) (g_X12_edge_136 rec_75 x1 x2 x3 x4 x5 x7) := by
  unfold f_X12_edge_136 g_X12_edge_136
  exact r_X12_edge_140 frec_75 rec_75 hrec_75 _ _ _ _ _ _ _
def gB_X12_edge_75 (x1 : Int) (x2 : Int) (x3 : Int) (x4 : Int) (x5 : Int) (rec_75 : Int × Int → gM Int) (x6 : Int) (x7 : Int) : gM Int :=
  gcb (x7) (100) ((100 ≤ x7)) (g_X12_edge_146 x1 x3 x6) (gcb (x6) (100) ((¬ (x6 = 100))) (g_X12_edge_146 x1 x3 x6) (gcb (x2) (1) ((x2 ≤ 1)) (g_X12_edge_146 x1 x3 x6) (gas 73 3 (x1) (x7) (gget (-6903) (fun v106 => gbd (g_X12_allPieces) (fun v110 => gbd (g_X12_layBest x2 0 v106 v110) (fun v113 => gget (-6952) (fun v119 => gcb (v119) (x4) ((¬ (v119 = x4))) (g_X12_edge_136 rec_75 x1 x2 x3 x4 x5 x7) (gget (-6953) (fun v128 => gcb (v128) (x5) ((v128 = x5)) (g_X12_edge_140 rec_75 x1 x2 x3 x4 x5 x6 x7) (g_X12_edge_136 rec_75 x1 x2 x3 x4 x5 x7)))))))))))
set_option maxRecDepth 20000 in
theorem rB_X12_edge_75 (x1 : Int) (x2 : Int) (x3 : Int) (x4 : Int) (x5 : Int) (frec_75 : Int × Int → hf_M Int) (rec_75 : Int × Int → gM Int) (hrec_75 : ∀ s : Int × Int, gr (frec_75 s) (rec_75 s)) (x6 : Int) (x7 : Int) : gr (B_X12_edge_75 69 x1 x2 x3 x4 x5 frec_75 x6 x7) (gB_X12_edge_75 x1 x2 x3 x4 x5 rec_75 x6 x7) := by
  unfold B_X12_edge_75 gB_X12_edge_75
  refine gr_cb ?_ ?_
  · exact r_X12_edge_146 _ _ _
  · refine gr_cb ?_ ?_
    · exact r_X12_edge_146 _ _ _
    · refine gr_cb ?_ ?_
      · exact r_X12_edge_146 _ _ _
      · refine gr_gfp 69 73 (by decide) (by decide) rfl rfl (by decide) ?_
        refine gr_as 73 3 (by decide) (by decide) rfl (by decide) rfl rfl ?_
        refine gr_gf 69 (by decide) (by decide) rfl (by decide) rfl (fun v106 => ?_)
        refine gr_bd (gr_ob 69 (by decide) (by decide) rfl (r_X12_allPieces)) (fun v110 => ?_)
        refine gr_bd (gr_ob 69 (by decide) (by decide) rfl (r_X12_layBest _ _ _ _)) (fun v113 => ?_)
        refine gr_gf 69 (by decide) (by decide) rfl (by decide) rfl (fun v119 => ?_)
        refine gr_cb ?_ ?_
        · exact r_X12_edge_136 frec_75 rec_75 hrec_75 _ _ _ _ _ _
        · refine gr_gf 69 (by decide) (by decide) rfl (by decide) rfl (fun v128 => ?_)
          refine gr_cb ?_ ?_
          · exact r_X12_edge_140 frec_75 rec_75 hrec_75 _ _ _ _ _ _ _
          · exact r_X12_edge_136 frec_75 rec_75 hrec_75 _ _ _ _ _ _
def g_X12_edge_75 (x1 : Int) (x2 : Int) (x3 : Int) (x4 : Int) (x5 : Int) (x6 : Int) (x7 : Int) : gM Int :=
  gfx (fun rec s => gB_X12_edge_75 x1 x2 x3 x4 x5 rec s.1 s.2) hf_N (x6, x7)
set_option maxRecDepth 20000 in
theorem r_X12_edge_75 (x1 : Int) (x2 : Int) (x3 : Int) (x4 : Int) (x5 : Int) (x6 : Int) (x7 : Int) : gr (f_X12_edge_75 69 x1 x2 x3 x4 x5 x6 x7) (g_X12_edge_75 x1 x2 x3 x4 x5 x6 x7) := by
  unfold f_X12_edge_75 g_X12_edge_75
  refine gr_fx (fun frec rec hrec s => ?_) _ _
  exact rB_X12_edge_75 _ _ _ _ _ _ _ hrec _ _
def g_X12_edge (x1 : Int) (x2 : Int) : gM Int :=
  gput (-6902) (0) (gbd (g_X12_isKind x1) (fun v6 => gcz (v6) ((v6 = 0)) (gret ((-1))) (gbd (g_X12_isIn x2 0 3) (fun v15 => gcz (v15) ((¬ (v15 = 0))) (gget (-6903) (fun v27 => gbd (g_X12_allPieces) (fun v31 => gbd (g_X12_layBest x2 0 v27 v31) (fun v34 => gcl (v34) (1000000000000) ((v34 < 1000000000000)) (gal 73 3 (x1) (fun v52 => gget (-6952) (fun v55 => gget (-6953) (fun v61 => glet ((v52 + 1)) (fun x7_73 => g_X12_edge_75 x1 x2 v52 v55 v61 100 x7_73))))) (gret ((-2))))))) (gret ((-1)))))))
set_option maxRecDepth 20000 in
theorem r_X12_edge (x1 : Int) (x2 : Int) : gr (f_X12_edge 69 x1 x2) (g_X12_edge x1 x2) := by
  unfold f_X12_edge g_X12_edge
  refine gr_pf 69 (by decide) (by decide) rfl (by decide) (by decide) rfl rfl ?_
  refine gr_bd (r_X12_isKind _) (fun v6 => ?_)
  refine gr_cz ?_ ?_
  · exact gr_ret _
  · refine gr_bd (r_X12_isIn _ _ _) (fun v15 => ?_)
    refine gr_cz ?_ ?_
    · refine gr_gf 69 (by decide) (by decide) rfl (by decide) rfl (fun v27 => ?_)
      refine gr_bd (gr_ob 69 (by decide) (by decide) rfl (r_X12_allPieces)) (fun v31 => ?_)
      refine gr_bd (gr_ob 69 (by decide) (by decide) rfl (r_X12_layBest _ _ _ _)) (fun v34 => ?_)
      refine gr_cl ?_ ?_
      · refine gr_gfp 69 73 (by decide) (by decide) rfl rfl (by decide) ?_
        refine gr_al 73 3 (by decide) (by decide) rfl (by decide) rfl (fun v52 => ?_)
        refine gr_gf 69 (by decide) (by decide) rfl (by decide) rfl (fun v55 => ?_)
        refine gr_gf 69 (by decide) (by decide) rfl (by decide) rfl (fun v61 => ?_)
        refine gr_let (fun x7_73 => ?_)
        exact r_X12_edge_75 _ _ _ _ _ _ _
      · exact gr_ret _
    · exact gr_ret _
def g_X10_makeRoom  : gM Int :=
  gget (-4600) (fun v1 => gand 20 v1 (fun v4 => gcz (v4) ((¬ (v4 = 0))) (gret (0)) (gna 20 (861) (fun v12 => gput (-4600) (v12) (gna 20 (861) (fun v21 => gput (-4601) (v21) (gna 20 (1681) (fun v30 => gput (-4602) (v30) (gret (0))))))))))
set_option maxRecDepth 20000 in
theorem r_X10_makeRoom  : gr (f_X10_makeRoom 46) (g_X10_makeRoom ) := by
  unfold f_X10_makeRoom g_X10_makeRoom
  refine gr_gf 46 (by decide) (by decide) rfl (by decide) rfl (fun v1 => ?_)
  refine gr_and (fun v4 => ?_)
  refine gr_cz ?_ ?_
  · exact gr_ret _
  · refine gr_na (by decide) (fun v12 => ?_)
    refine gr_pf 46 (by decide) (by decide) rfl (by decide) (by decide) rfl rfl ?_
    refine gr_na (by decide) (fun v21 => ?_)
    refine gr_pf 46 (by decide) (by decide) rfl (by decide) (by decide) rfl rfl ?_
    refine gr_na (by decide) (fun v30 => ?_)
    refine gr_pf 46 (by decide) (by decide) rfl (by decide) (by decide) rfl rfl ?_
    exact gr_ret _
def gB_J7_fill_5_od (x0 : Int) (x1 : Int) (x3 : Int) (rec_5 : Int → gM Int) (x2 : Int) : gM Int :=
  gcb (x2) (x3) ((x3 ≤ x2)) (gret (0)) (gasd 20 x0 (x2) (x1) (glet ((x2 + 1)) (fun x2_14 => rec_5 x2_14)))
set_option maxRecDepth 20000 in
theorem rB_J7_fill_5_od (x0 : Int) (x1 : Int) (x3 : Int) (frec_5 : Int → hf_M Int) (rec_5 : Int → gM Int) (hrec_5 : ∀ s : Int, gr (frec_5 s) (rec_5 s)) (x2 : Int) : gr (B_J7_fill_53178_5 x0 x1 x3 frec_5 x2) (gB_J7_fill_5_od x0 x1 x3 rec_5 x2) := by
  unfold B_J7_fill_53178_5 gB_J7_fill_5_od
  refine gr_cb ?_ ?_
  · exact gr_ret _
  · refine gr_asd (by decide) ?_
    refine gr_let (fun x2_14 => ?_)
    exact hrec_5 _
def g_J7_fill_5_od (x0 : Int) (x1 : Int) (x2 : Int) (x3 : Int) : gM Int :=
  gfx (fun rec s => gB_J7_fill_5_od x0 x1 x3 rec s) hf_N x2
set_option maxRecDepth 20000 in
theorem r_J7_fill_5_od (x0 : Int) (x1 : Int) (x2 : Int) (x3 : Int) : gr (f_J7_fill_53178_5 x0 x1 x2 x3) (g_J7_fill_5_od x0 x1 x2 x3) := by
  unfold f_J7_fill_53178_5 g_J7_fill_5_od
  refine gr_fx (fun frec rec hrec s => ?_) _ _
  exact rB_J7_fill_5_od _ _ _ _ _ hrec _
def g_J7_fill_od (x0 : Int) (x1 : Int) : gM Int :=
  gand 20 x0 (fun v3 => g_J7_fill_5_od x0 x1 0 v3)
set_option maxRecDepth 20000 in
theorem r_J7_fill_od (x0 : Int) (x1 : Int) : gr (f_J7_fill_53178 x0 x1) (g_J7_fill_od x0 x1) := by
  unfold f_J7_fill_53178 g_J7_fill_od
  refine gr_and (fun v3 => ?_)
  exact r_J7_fill_5_od _ _ _ _
def gB_X10_fillWithoutPieces_11 (rec_11 : Int → gM Int) (x1 : Int) : gM Int :=
  gget (-4603) (fun v13 => gcb (x1) (v13) ((v13 < x1)) (gret (0)) (gget (-4600) (fun v20 => gbd (g_X11_spanAt x1 x1) (fun v25 => gasd 20 v20 (v25) (0) (glet ((x1 + 1)) (fun x1_30 => rec_11 x1_30))))))
set_option maxRecDepth 20000 in
theorem rB_X10_fillWithoutPieces_11 (frec_11 : Int → hf_M Int) (rec_11 : Int → gM Int) (hrec_11 : ∀ s : Int, gr (frec_11 s) (rec_11 s)) (x1 : Int) : gr (B_X10_fillWithoutPieces_11 46 frec_11 x1) (gB_X10_fillWithoutPieces_11 rec_11 x1) := by
  unfold B_X10_fillWithoutPieces_11 gB_X10_fillWithoutPieces_11
  refine gr_gf 46 (by decide) (by decide) rfl (by decide) rfl (fun v13 => ?_)
  refine gr_cb ?_ ?_
  · exact gr_ret _
  · refine gr_gf 46 (by decide) (by decide) rfl (by decide) rfl (fun v20 => ?_)
    refine gr_bd (r_X11_spanAt _ _) (fun v25 => ?_)
    refine gr_asd (by decide) ?_
    refine gr_let (fun x1_30 => ?_)
    exact hrec_11 _
def g_X10_fillWithoutPieces_11 (x1 : Int) : gM Int :=
  gfx (fun rec s => gB_X10_fillWithoutPieces_11 rec s) hf_N x1
set_option maxRecDepth 20000 in
theorem r_X10_fillWithoutPieces_11 (x1 : Int) : gr (f_X10_fillWithoutPieces_11 46 x1) (g_X10_fillWithoutPieces_11 x1) := by
  unfold f_X10_fillWithoutPieces_11 g_X10_fillWithoutPieces_11
  refine gr_fx (fun frec rec hrec s => ?_) _ _
  exact rB_X10_fillWithoutPieces_11 _ _ hrec _
def g_X10_fillWithoutPieces  : gM Int :=
  gget (-4600) (fun v1 => gbd (g_J7_fill_od v1 1000000000) (fun _ => g_X10_fillWithoutPieces_11 0))
set_option maxRecDepth 20000 in
theorem r_X10_fillWithoutPieces  : gr (f_X10_fillWithoutPieces 46) (g_X10_fillWithoutPieces ) := by
  unfold f_X10_fillWithoutPieces g_X10_fillWithoutPieces
  refine gr_gf 46 (by decide) (by decide) rfl (by decide) rfl (fun v1 => ?_)
  refine gr_bd (r_J7_fill_od _ _) (fun _ => ?_)
  exact r_X10_fillWithoutPieces_11 _
def gB_X10_fewestFrom_61 (x1 : Int) (x3 : Int) (x7 : Int) (rec_61 : Int × Int → gM Int) (x4 : Int) (x8 : Int) : gM Int :=
  gcb (x8) (x7) ((x7 < x8)) (gret (x4)) (gget (-4600) (fun v69 => gbd (g_X11_spanAt x1 (x8 - 1)) (fun v77 => gald 20 v69 (v77) (fun v80 => gcb ((v80 + 1)) (x4) (((v80 + 1) < x4)) (gget (-4602) (fun v96 => gald 20 v96 ((((x8 * 41) + x3) + 1)) (fun v108 => gck ((hf_inI v80) ∧ (hf_inI v108)) (glet ((max v80 v108)) (fun v118 => gck ((hf_inI x4) ∧ (hf_inI (1 + v118))) (glet ((min x4 (1 + v118))) (fun v122 => glet ((x8 + 1)) (fun x8_127 => rec_61 (v122, x8_127))))))))) (gret (x4))))))
set_option maxRecDepth 20000 in
theorem rB_X10_fewestFrom_61 (x1 : Int) (x3 : Int) (x7 : Int) (frec_61 : Int × Int → hf_M Int) (rec_61 : Int × Int → gM Int) (hrec_61 : ∀ s : Int × Int, gr (frec_61 s) (rec_61 s)) (x4 : Int) (x8 : Int) : gr (B_X10_fewestFrom_61 46 x1 x3 x7 frec_61 x4 x8) (gB_X10_fewestFrom_61 x1 x3 x7 rec_61 x4 x8) := by
  unfold B_X10_fewestFrom_61 gB_X10_fewestFrom_61
  refine gr_cb ?_ ?_
  · exact gr_ret _
  · refine gr_gf 46 (by decide) (by decide) rfl (by decide) rfl (fun v69 => ?_)
    refine gr_bd (r_X11_spanAt _ _) (fun v77 => ?_)
    refine gr_ald (by decide) (fun v80 => ?_)
    refine gr_cb ?_ ?_
    · refine gr_gf 46 (by decide) (by decide) rfl (by decide) rfl (fun v96 => ?_)
      refine gr_ald (by decide) (fun v108 => ?_)
      refine gr_ck (fun _ => ?_)
      refine gr_let (fun v118 => ?_)
      refine gr_ck (fun _ => ?_)
      refine gr_let (fun v122 => ?_)
      refine gr_let (fun x8_127 => ?_)
      exact hrec_61 _
    · exact gr_ret _
def g_X10_fewestFrom_61 (x1 : Int) (x3 : Int) (x4 : Int) (x7 : Int) (x8 : Int) : gM Int :=
  gfx (fun rec s => gB_X10_fewestFrom_61 x1 x3 x7 rec s.1 s.2) hf_N (x4, x8)
set_option maxRecDepth 20000 in
theorem r_X10_fewestFrom_61 (x1 : Int) (x3 : Int) (x4 : Int) (x7 : Int) (x8 : Int) : gr (f_X10_fewestFrom_61 46 x1 x3 x4 x7 x8) (g_X10_fewestFrom_61 x1 x3 x4 x7 x8) := by
  unfold f_X10_fewestFrom_61 g_X10_fewestFrom_61
  refine gr_fx (fun frec rec hrec s => ?_) _ _
  exact rB_X10_fewestFrom_61 _ _ _ _ _ hrec _ _
def g_X10_fewestFrom (x1 : Int) (x2 : Int) (x3 : Int) : gM Int :=
  gcb (x1) (x2) ((¬ (x1 = x2))) (gget (-4600) (fun v8 => gbd (g_X11_spanAt x1 x2) (fun v13 => gald 20 v8 (v13) (fun v16 => gget (-4605) (fun v20 => gget (-4604) (fun v26 => glet (((v20 * x3) - v26)) (fun x5_30 => gck ((hf_inI (x1 + 1)) ∧ (hf_inI (1 + x5_30))) (glet ((max (x1 + 1) (1 + x5_30))) (fun v39 => gget (-4603) (fun v46 => gck ((hf_inI x2) ∧ (hf_inI (v46 + x5_30))) (glet ((min x2 (v46 + x5_30))) (fun v52 => g_X10_fewestFrom_61 x1 x3 v16 v52 v39)))))))))))) (gret (0))
set_option maxRecDepth 20000 in
theorem r_X10_fewestFrom (x1 : Int) (x2 : Int) (x3 : Int) : gr (f_X10_fewestFrom 46 x1 x2 x3) (g_X10_fewestFrom x1 x2 x3) := by
  unfold f_X10_fewestFrom g_X10_fewestFrom
  refine gr_cb ?_ ?_
  · refine gr_gf 46 (by decide) (by decide) rfl (by decide) rfl (fun v8 => ?_)
    refine gr_bd (r_X11_spanAt _ _) (fun v13 => ?_)
    refine gr_ald (by decide) (fun v16 => ?_)
    refine gr_gf 46 (by decide) (by decide) rfl (by decide) rfl (fun v20 => ?_)
    refine gr_gf 46 (by decide) (by decide) rfl (by decide) rfl (fun v26 => ?_)
    refine gr_let (fun x5_30 => ?_)
    refine gr_ck (fun _ => ?_)
    refine gr_let (fun v39 => ?_)
    refine gr_gf 46 (by decide) (by decide) rfl (by decide) rfl (fun v46 => ?_)
    refine gr_ck (fun _ => ?_)
    refine gr_let (fun v52 => ?_)
    exact r_X10_fewestFrom_61 _ _ _ _ _
  · exact gr_ret _
def gB_X10_fillHigh_8 (rec_2 : Int → gM Int) (x1 : Int) (x2 : Int) (rec_8 : Int → gM Int) (x3 : Int) : gM Int :=
  gcb (x3) (x2) ((x2 < x3)) (gget (-4601) (fun v38 => gbd (g_X11_spanAt x2 x1) (fun v43 => gget (-4602) (fun v47 => gald 20 v47 ((x2 * 41)) (fun v54 => gasd 20 v38 (v43) (v54) (glet ((x2 + (-1))) (fun x2_56 => rec_2 x2_56))))))) (gget (-4602) (fun v14 => gbd (g_X10_fewestFrom x2 x1 x3) (fun v27 => gasd 20 v14 (((x2 * 41) + x3)) (v27) (glet ((x3 + 1)) (fun x3_31 => rec_8 x3_31)))))
set_option maxRecDepth 20000 in
theorem rB_X10_fillHigh_8 (frec_2 : Int → hf_M Int) (rec_2 : Int → gM Int) (hrec_2 : ∀ s : Int, gr (frec_2 s) (rec_2 s)) (x1 : Int) (x2 : Int) (frec_8 : Int → hf_M Int) (rec_8 : Int → gM Int) (hrec_8 : ∀ s : Int, gr (frec_8 s) (rec_8 s)) (x3 : Int) : gr (B_X10_fillHigh_8 frec_2 46 x1 x2 frec_8 x3) (gB_X10_fillHigh_8 rec_2 x1 x2 rec_8 x3) := by
  unfold B_X10_fillHigh_8 gB_X10_fillHigh_8
  refine gr_cb ?_ ?_
  · refine gr_gf 46 (by decide) (by decide) rfl (by decide) rfl (fun v38 => ?_)
    refine gr_bd (r_X11_spanAt _ _) (fun v43 => ?_)
    refine gr_gf 46 (by decide) (by decide) rfl (by decide) rfl (fun v47 => ?_)
    refine gr_ald (by decide) (fun v54 => ?_)
    refine gr_asd (by decide) ?_
    refine gr_let (fun x2_56 => ?_)
    exact hrec_2 _
  · refine gr_gf 46 (by decide) (by decide) rfl (by decide) rfl (fun v14 => ?_)
    refine gr_bd (gr_ob 46 (by decide) (by decide) rfl (r_X10_fewestFrom _ _ _)) (fun v27 => ?_)
    refine gr_asd (by decide) ?_
    refine gr_let (fun x3_31 => ?_)
    exact hrec_8 _
def g_X10_fillHigh_8 (rec_2 : Int → gM Int) (x1 : Int) (x2 : Int) (x3 : Int) : gM Int :=
  gfx (fun rec s => gB_X10_fillHigh_8 rec_2 x1 x2 rec s) hf_N x3
set_option maxRecDepth 20000 in
theorem r_X10_fillHigh_8 (frec_2 : Int → hf_M Int) (rec_2 : Int → gM Int) (hrec_2 : ∀ s : Int, gr (frec_2 s) (rec_2 s)) (x1 : Int) (x2 : Int) (x3 : Int) : gr (f_X10_fillHigh_8 frec_2 46 x1 x2 x3) (g_X10_fillHigh_8 rec_2 x1 x2 x3) := by
  unfold f_X10_fillHigh_8 g_X10_fillHigh_8
  refine gr_fx (fun frec rec hrec s => ?_) _ _
  exact rB_X10_fillHigh_8 _ _ hrec_2 _ _ _ _ hrec _
def gB_X10_fillHigh_2 (x1 : Int) (rec_2 : Int → gM Int) (x2 : Int) : gM Int :=
  gcz (x2) ((x2 < 0)) (gret (0)) (g_X10_fillHigh_8 rec_2 x1 x2 0)
set_option maxRecDepth 20000 in
theorem rB_X10_fillHigh_2 (x1 : Int) (frec_2 : Int → hf_M Int) (rec_2 : Int → gM Int) (hrec_2 : ∀ s : Int, gr (frec_2 s) (rec_2 s)) (x2 : Int) : gr (B_X10_fillHigh_2 46 x1 frec_2 x2) (gB_X10_fillHigh_2 x1 rec_2 x2) := by
  unfold B_X10_fillHigh_2 gB_X10_fillHigh_2
  refine gr_cz ?_ ?_
  · exact gr_ret _
  · exact r_X10_fillHigh_8 frec_2 rec_2 hrec_2 _ _ _
def g_X10_fillHigh_2 (x1 : Int) (x2 : Int) : gM Int :=
  gfx (fun rec s => gB_X10_fillHigh_2 x1 rec s) hf_N x2
set_option maxRecDepth 20000 in
theorem r_X10_fillHigh_2 (x1 : Int) (x2 : Int) : gr (f_X10_fillHigh_2 46 x1 x2) (g_X10_fillHigh_2 x1 x2) := by
  unfold f_X10_fillHigh_2 g_X10_fillHigh_2
  refine gr_fx (fun frec rec hrec s => ?_) _ _
  exact rB_X10_fillHigh_2 _ _ _ hrec _
def g_X10_fillHigh (x1 : Int) : gM Int :=
  g_X10_fillHigh_2 x1 x1
set_option maxRecDepth 20000 in
theorem r_X10_fillHigh (x1 : Int) : gr (f_X10_fillHigh 46 x1) (g_X10_fillHigh x1) := by
  unfold f_X10_fillHigh g_X10_fillHigh
  exact r_X10_fillHigh_2 _ _
def gB_X10_fewestFalls_43 (rec_34 : Int → gM Int) (x2 : Int) (x4 : Int) (rec_43 : Int → gM Int) (x5 : Int) : gM Int :=
  gget (-4603) (fun v46 => gcb (x5) (v46) ((v46 < x5)) (gget (-4600) (fun v65 => gget (-4601) (fun v72 => gput (-4600) (v72) (gput (-4601) (v65) (glet ((x4 + 1)) (fun x4_84 => rec_34 x4_84)))))) (gbd (g_X10_fillHigh x5) (fun _ => glet ((x5 + 1)) (fun x5_58 => rec_43 x5_58))))
set_option maxRecDepth 20000 in
theorem rB_X10_fewestFalls_43 (frec_34 : Int → hf_M Int) (rec_34 : Int → gM Int) (hrec_34 : ∀ s : Int, gr (frec_34 s) (rec_34 s)) (x2 : Int) (x4 : Int) (frec_43 : Int → hf_M Int) (rec_43 : Int → gM Int) (hrec_43 : ∀ s : Int, gr (frec_43 s) (rec_43 s)) (x5 : Int) : gr (B_X10_fewestFalls_43 frec_34 46 x2 x4 frec_43 x5) (gB_X10_fewestFalls_43 rec_34 x2 x4 rec_43 x5) := by
  unfold B_X10_fewestFalls_43 gB_X10_fewestFalls_43
  refine gr_gf 46 (by decide) (by decide) rfl (by decide) rfl (fun v46 => ?_)
  refine gr_cb ?_ ?_
  · refine gr_gf 46 (by decide) (by decide) rfl (by decide) rfl (fun v65 => ?_)
    refine gr_gf 46 (by decide) (by decide) rfl (by decide) rfl (fun v72 => ?_)
    refine gr_pf 46 (by decide) (by decide) rfl (by decide) (by decide) rfl rfl ?_
    refine gr_pf 46 (by decide) (by decide) rfl (by decide) (by decide) rfl rfl ?_
    refine gr_let (fun x4_84 => ?_)
    exact hrec_34 _
  · refine gr_bd (gr_ob 46 (by decide) (by decide) rfl (r_X10_fillHigh _)) (fun _ => ?_)
    refine gr_let (fun x5_58 => ?_)
    exact hrec_43 _
def g_X10_fewestFalls_43 (rec_34 : Int → gM Int) (x2 : Int) (x4 : Int) (x5 : Int) : gM Int :=
  gfx (fun rec s => gB_X10_fewestFalls_43 rec_34 x2 x4 rec s) hf_N x5
set_option maxRecDepth 20000 in
theorem r_X10_fewestFalls_43 (frec_34 : Int → hf_M Int) (rec_34 : Int → gM Int) (hrec_34 : ∀ s : Int, gr (frec_34 s) (rec_34 s)) (x2 : Int) (x4 : Int) (x5 : Int) : gr (f_X10_fewestFalls_43 frec_34 46 x2 x4 x5) (g_X10_fewestFalls_43 rec_34 x2 x4 x5) := by
  unfold f_X10_fewestFalls_43 g_X10_fewestFalls_43
  refine gr_fx (fun frec rec hrec s => ?_) _ _
  exact rB_X10_fewestFalls_43 _ _ hrec_34 _ _ _ _ hrec _
def gB_X10_fewestFalls_34 (x2 : Int) (rec_34 : Int → gM Int) (x4 : Int) : gM Int :=
  gcb (x4) (x2) ((x2 < x4)) (gget (-4600) (fun v91 => gget (-4603) (fun v96 => gbd (g_X11_spanAt 0 v96) (fun v99 => gald 20 v91 (v99) (fun v102 => gck ((hf_inI v102) ∧ (hf_inI 1000000000)) (glet ((if (v102 < 1000000000) then v102 else (-2))) (fun w119 => gret (w119)))))))) (g_X10_fewestFalls_43 rec_34 x2 x4 0)
set_option maxRecDepth 20000 in
theorem rB_X10_fewestFalls_34 (x2 : Int) (frec_34 : Int → hf_M Int) (rec_34 : Int → gM Int) (hrec_34 : ∀ s : Int, gr (frec_34 s) (rec_34 s)) (x4 : Int) : gr (B_X10_fewestFalls_34 46 x2 frec_34 x4) (gB_X10_fewestFalls_34 x2 rec_34 x4) := by
  unfold B_X10_fewestFalls_34 gB_X10_fewestFalls_34
  refine gr_cb ?_ ?_
  · refine gr_gf 46 (by decide) (by decide) rfl (by decide) rfl (fun v91 => ?_)
    refine gr_gf 46 (by decide) (by decide) rfl (by decide) rfl (fun v96 => ?_)
    refine gr_bd (r_X11_spanAt _ _) (fun v99 => ?_)
    refine gr_ald (by decide) (fun v102 => ?_)
    refine gr_ck (fun _ => ?_)
    refine gr_let (fun w119 => ?_)
    exact gr_ret _
  · exact r_X10_fewestFalls_43 frec_34 rec_34 hrec_34 _ _ _
def g_X10_fewestFalls_34 (x2 : Int) (x4 : Int) : gM Int :=
  gfx (fun rec s => gB_X10_fewestFalls_34 x2 rec s) hf_N x4
set_option maxRecDepth 20000 in
theorem r_X10_fewestFalls_34 (x2 : Int) (x4 : Int) : gr (f_X10_fewestFalls_34 46 x2 x4) (g_X10_fewestFalls_34 x2 x4) := by
  unfold f_X10_fewestFalls_34 g_X10_fewestFalls_34
  refine gr_fx (fun frec rec hrec s => ?_) _ _
  exact rB_X10_fewestFalls_34 _ _ _ hrec _
def g_X10_fewestFalls (x2 : Int) (x3 : Int) : gM Int :=
  gbd (g_X10_makeRoom) (fun _ => gget (-200) (fun v6 => gput (-4603) (v6) (gal 3 3 (0) (fun v18 => gput (-4604) (v18) (gput (-4605) (x3) (gbd (g_X10_fillWithoutPieces) (fun _ => g_X10_fewestFalls_34 x2 1)))))))
set_option maxRecDepth 20000 in
theorem r_X10_fewestFalls (x2 : Int) (x3 : Int) : gr (f_X10_fewestFalls 46 2 x2 x3) (g_X10_fewestFalls x2 x3) := by
  unfold f_X10_fewestFalls g_X10_fewestFalls
  refine gr_bd (gr_ob 46 (by decide) (by decide) rfl (r_X10_makeRoom)) (fun _ => ?_)
  refine gr_gf 2 (by decide) (by decide) rfl (by decide) rfl (fun v6 => ?_)
  refine gr_pf 46 (by decide) (by decide) rfl (by decide) (by decide) rfl rfl ?_
  refine gr_gfp 2 3 (by decide) (by decide) rfl rfl (by decide) ?_
  refine gr_al 3 3 (by decide) (by decide) rfl (by decide) rfl (fun v18 => ?_)
  refine gr_pf 46 (by decide) (by decide) rfl (by decide) (by decide) rfl rfl ?_
  refine gr_pf 46 (by decide) (by decide) rfl (by decide) (by decide) rfl rfl ?_
  refine gr_bd (gr_ob 46 (by decide) (by decide) rfl (r_X10_fillWithoutPieces)) (fun _ => ?_)
  exact r_X10_fewestFalls_34 _ _
def g_X11_weak (x1 : Int) (x2 : Int) : gM Int :=
  gcb (x1) (1) ((x1 < 1)) (gret ((-1))) (gcb (x1) (4) ((4 < x1)) (gret ((-1))) (gbd (g_X11_isWithin x2 3) (fun v12 => gcz (v12) ((¬ (v12 = 0))) (gbd (g_X10_fewestFalls x1 x2) (fun v30 => gret (v30))) (gret ((-1))))))
set_option maxRecDepth 20000 in
theorem r_X11_weak (x1 : Int) (x2 : Int) : gr (f_X11_weak 1 x1 x2) (g_X11_weak x1 x2) := by
  unfold f_X11_weak g_X11_weak
  refine gr_cb ?_ ?_
  · exact gr_ret _
  · refine gr_cb ?_ ?_
    · exact gr_ret _
    · refine gr_bd (r_X11_isWithin _ _) (fun v12 => ?_)
      refine gr_cz ?_ ?_
      · refine gr_gfp 1 46 (by decide) (by decide) rfl rfl (by decide) ?_
        refine gr_gfp 1 2 (by decide) (by decide) rfl rfl (by decide) ?_
        refine gr_bd (gr_ob 46 (by decide) (by decide) rfl (r_X10_fewestFalls _ _)) (fun v30 => ?_)
        exact gr_ret _
      · exact gr_ret _
def g_X12_weakAt (x1 : Int) (x2 : Int) (x3 : Int) (x4 : Int) : gM Int :=
  gcb (x1) (x2) ((¬ (x1 = x2))) (gcz (x4) ((¬ (x4 = 0))) (gal 93 344605 (((5 * ((41 * ((41 * x1) + x2)) + x3)) + x4)) (fun v40 => gret (v40))) (gret (1000000))) (gret (0))
set_option maxRecDepth 20000 in
theorem r_X12_weakAt (x1 : Int) (x2 : Int) (x3 : Int) (x4 : Int) : gr (f_X12_weakAt 69 x1 x2 x3 x4) (g_X12_weakAt x1 x2 x3 x4) := by
  unfold f_X12_weakAt g_X12_weakAt
  refine gr_cb ?_ ?_
  · refine gr_cz ?_ ?_
    · refine gr_gfp 69 93 (by decide) (by decide) rfl rfl (by decide) ?_
      refine gr_al 93 344605 (by decide) (by decide) rfl (by decide) rfl (fun v40 => ?_)
      exact gr_ret _
    · exact gr_ret _
  · exact gr_ret _
def g_X12_weakBest_132 (rec_28 : Int × Int → gM Int) (x1 : Int) (x2 : Int) (x3 : Int) (x4 : Int) (x5 : Int) (x6 : Int) (x7 : Int) : gM Int :=
  glet ((x7 + 1)) (fun x7_132 => rec_28 (x6, x7_132))
set_option maxRecDepth 20000 in
theorem r_X12_weakBest_132 (frec_28 : Int × Int → hf_M Int) (rec_28 : Int × Int → gM Int) (hrec_28 : ∀ s : Int × Int, gr (frec_28 s) (rec_28 s)) (x1 : Int) (x2 : Int) (x3 : Int) (x4 : Int) (x5 : Int) (x6 : Int) (x7 : Int) : gr (f_X12_weakBest_132 frec_28 69 x1 x2 x3 x4 x5 x6 x7) (g_X12_weakBest_132 rec_28 x1 x2 x3 x4 x5 x6 x7) := by
  unfold f_X12_weakBest_132 g_X12_weakBest_132
  refine gr_let (fun x7_132 => ?_)
  exact hrec_28 _
def gB_X12_weakBest_28 (x1 : Int) (x2 : Int) (x3 : Int) (x4 : Int) (x5 : Int) (rec_28 : Int × Int → gM Int) (x6 : Int) (x7 : Int) : gM Int :=
  gget (-6903) (fun v31 => gcb (x7) (v31) ((v31 < x7)) (gcb (x6) (1000000) ((x6 ≤ 1000000)) (gret (x6)) (gret (1000000))) (gal 71 3 (0) (fun v44 => glet (((x7 - v44) + (x5 * x3))) (fun x8_51 => gcb (x8_51) (x1) ((x8_51 ≤ x1)) (g_X12_weakBest_132 rec_28 x1 x2 x3 x4 x5 x6 x7) (gcb (x8_51) (x2) ((x8_51 ≤ x2)) (gbd (g_X12_weakAt x8_51 x2 (x3 + 1) x4) (fun v77 => gbd (g_X12_weakAt x1 (x8_51 - 1) 0 (x4 - 1)) (fun v93 => gck ((hf_inI v77) ∧ (hf_inI v93)) (glet ((if (v77 ≤ v93) then v93 else v77)) (fun w113 => glet ((1 + w113)) (fun x11_114 => gck ((hf_inI x11_114) ∧ (hf_inI x6)) (glet ((if (x6 ≤ x11_114) then x6 else x11_114)) (fun w130 => g_X12_weakBest_132 rec_28 x1 x2 x3 x4 x5 w130 x7)))))))) (g_X12_weakBest_132 rec_28 x1 x2 x3 x4 x5 x6 x7))))))
set_option maxRecDepth 20000 in
theorem rB_X12_weakBest_28 (x1 : Int) (x2 : Int) (x3 : Int) (x4 : Int) (x5 : Int) (frec_28 : Int × Int → hf_M Int) (rec_28 : Int × Int → gM Int) (hrec_28 : ∀ s : Int × Int, gr (frec_28 s) (rec_28 s)) (x6 : Int) (x7 : Int) : gr (B_X12_weakBest_28 69 x1 x2 x3 x4 x5 frec_28 x6 x7) (gB_X12_weakBest_28 x1 x2 x3 x4 x5 rec_28 x6 x7) := by
  unfold B_X12_weakBest_28 gB_X12_weakBest_28
  refine gr_gf 69 (by decide) (by decide) rfl (by decide) rfl (fun v31 => ?_)
  refine gr_cb ?_ ?_
  · refine gr_cb ?_ ?_
    · exact gr_ret _
    · exact gr_ret _
  · refine gr_gfp 69 71 (by decide) (by decide) rfl rfl (by decide) ?_
    refine gr_al 71 3 (by decide) (by decide) rfl (by decide) rfl (fun v44 => ?_)
    refine gr_let (fun x8_51 => ?_)
    refine gr_cb ?_ ?_
    · exact r_X12_weakBest_132 frec_28 rec_28 hrec_28 _ _ _ _ _ _ _
    · refine gr_cb ?_ ?_
      · refine gr_bd (gr_ob 69 (by decide) (by decide) rfl (r_X12_weakAt _ _ _ _)) (fun v77 => ?_)
        refine gr_bd (gr_ob 69 (by decide) (by decide) rfl (r_X12_weakAt _ _ _ _)) (fun v93 => ?_)
        refine gr_ck (fun _ => ?_)
        refine gr_let (fun w113 => ?_)
        refine gr_let (fun x11_114 => ?_)
        refine gr_ck (fun _ => ?_)
        refine gr_let (fun w130 => ?_)
        exact r_X12_weakBest_132 frec_28 rec_28 hrec_28 _ _ _ _ _ _ _
      · exact r_X12_weakBest_132 frec_28 rec_28 hrec_28 _ _ _ _ _ _ _
def g_X12_weakBest_28 (x1 : Int) (x2 : Int) (x3 : Int) (x4 : Int) (x5 : Int) (x6 : Int) (x7 : Int) : gM Int :=
  gfx (fun rec s => gB_X12_weakBest_28 x1 x2 x3 x4 x5 rec s.1 s.2) hf_N (x6, x7)
set_option maxRecDepth 20000 in
theorem r_X12_weakBest_28 (x1 : Int) (x2 : Int) (x3 : Int) (x4 : Int) (x5 : Int) (x6 : Int) (x7 : Int) : gr (f_X12_weakBest_28 69 x1 x2 x3 x4 x5 x6 x7) (g_X12_weakBest_28 x1 x2 x3 x4 x5 x6 x7) := by
  unfold f_X12_weakBest_28 g_X12_weakBest_28
  refine gr_fx (fun frec rec hrec s => ?_) _ _
  exact rB_X12_weakBest_28 _ _ _ _ _ _ _ hrec _ _
def g_X12_weakBest_23 (x1 : Int) (x2 : Int) (x3 : Int) (x4 : Int) (x5 : Int) (s0 : Int) : gM Int :=
  g_X12_weakBest_28 x1 x2 x3 x4 x5 s0 1
set_option maxRecDepth 20000 in
theorem r_X12_weakBest_23 (x1 : Int) (x2 : Int) (x3 : Int) (x4 : Int) (x5 : Int) (s0 : Int) : gr (f_X12_weakBest_23 69 x1 x2 x3 x4 x5 s0) (g_X12_weakBest_23 x1 x2 x3 x4 x5 s0) := by
  unfold f_X12_weakBest_23 g_X12_weakBest_23
  exact r_X12_weakBest_28 _ _ _ _ _ _ _
def g_X12_weakBest (x1 : Int) (x2 : Int) (x3 : Int) (x4 : Int) (x5 : Int) : gM Int :=
  gcb (x4) (1) ((x4 ≤ 1)) (g_X12_weakBest_23 x1 x2 x3 x4 x5 1000000) (gbd (g_X12_weakAt x1 x2 0 (x4 - 1)) (fun v14 => g_X12_weakBest_23 x1 x2 x3 x4 x5 v14))
set_option maxRecDepth 20000 in
theorem r_X12_weakBest (x1 : Int) (x2 : Int) (x3 : Int) (x4 : Int) (x5 : Int) : gr (f_X12_weakBest 69 x1 x2 x3 x4 x5) (g_X12_weakBest x1 x2 x3 x4 x5) := by
  unfold f_X12_weakBest g_X12_weakBest
  refine gr_cb ?_ ?_
  · exact r_X12_weakBest_23 _ _ _ _ _ _
  · refine gr_bd (gr_ob 69 (by decide) (by decide) rfl (r_X12_weakAt _ _ _ _)) (fun v14 => ?_)
    exact r_X12_weakBest_23 _ _ _ _ _ _
def gB_X12_weak_61 (rec_27 : Int → gM Int) (rec_38 : Int → gM Int) (rec_52 : Int → gM Int) (x1 : Int) (x2 : Int) (x3 : Int) (x4 : Int) (x5 : Int) (rec_61 : Int → gM Int) (x6 : Int) : gM Int :=
  gget (-6903) (fun v64 => gcb (x6) ((v64 - x3)) (((v64 - x3) < x6)) (glet ((x5 + 1)) (fun x5_119 => rec_52 x5_119)) (gbd (g_X12_weakBest x4 (x4 + x3) x6 x5 x2) (fun v109 => gas 93 344605 (((5 * ((41 * (((41 * x4) + x4) + x3)) + x6)) + x5)) (v109) (glet ((x6 + 1)) (fun x6_113 => rec_61 x6_113)))))
set_option maxRecDepth 20000 in
theorem rB_X12_weak_61 (frec_27 : Int → hf_M Int) (rec_27 : Int → gM Int) (hrec_27 : ∀ s : Int, gr (frec_27 s) (rec_27 s)) (frec_38 : Int → hf_M Int) (rec_38 : Int → gM Int) (hrec_38 : ∀ s : Int, gr (frec_38 s) (rec_38 s)) (frec_52 : Int → hf_M Int) (rec_52 : Int → gM Int) (hrec_52 : ∀ s : Int, gr (frec_52 s) (rec_52 s)) (x1 : Int) (x2 : Int) (x3 : Int) (x4 : Int) (x5 : Int) (frec_61 : Int → hf_M Int) (rec_61 : Int → gM Int) (hrec_61 : ∀ s : Int, gr (frec_61 s) (rec_61 s)) (x6 : Int) : gr (B_X12_weak_61 frec_27 frec_38 frec_52 69 x1 x2 x3 x4 x5 frec_61 x6) (gB_X12_weak_61 rec_27 rec_38 rec_52 x1 x2 x3 x4 x5 rec_61 x6) := by
  unfold B_X12_weak_61 gB_X12_weak_61
  refine gr_gf 69 (by decide) (by decide) rfl (by decide) rfl (fun v64 => ?_)
  refine gr_cb ?_ ?_
  · refine gr_let (fun x5_119 => ?_)
    exact hrec_52 _
  · refine gr_gfp 69 93 (by decide) (by decide) rfl rfl (by decide) ?_
    refine gr_bd (gr_ob 69 (by decide) (by decide) rfl (r_X12_weakBest _ _ _ _ _)) (fun v109 => ?_)
    refine gr_as 93 344605 (by decide) (by decide) rfl (by decide) rfl rfl ?_
    refine gr_let (fun x6_113 => ?_)
    exact hrec_61 _
def g_X12_weak_61 (rec_27 : Int → gM Int) (rec_38 : Int → gM Int) (rec_52 : Int → gM Int) (x1 : Int) (x2 : Int) (x3 : Int) (x4 : Int) (x5 : Int) (x6 : Int) : gM Int :=
  gfx (fun rec s => gB_X12_weak_61 rec_27 rec_38 rec_52 x1 x2 x3 x4 x5 rec s) hf_N x6
set_option maxRecDepth 20000 in
theorem r_X12_weak_61 (frec_27 : Int → hf_M Int) (rec_27 : Int → gM Int) (hrec_27 : ∀ s : Int, gr (frec_27 s) (rec_27 s)) (frec_38 : Int → hf_M Int) (rec_38 : Int → gM Int) (hrec_38 : ∀ s : Int, gr (frec_38 s) (rec_38 s)) (frec_52 : Int → hf_M Int) (rec_52 : Int → gM Int) (hrec_52 : ∀ s : Int, gr (frec_52 s) (rec_52 s)) (x1 : Int) (x2 : Int) (x3 : Int) (x4 : Int) (x5 : Int) (x6 : Int) : gr (f_X12_weak_61 frec_27 frec_38 frec_52 69 x1 x2 x3 x4 x5 x6) (g_X12_weak_61 rec_27 rec_38 rec_52 x1 x2 x3 x4 x5 x6) := by
  unfold f_X12_weak_61 g_X12_weak_61
  refine gr_fx (fun frec rec hrec s => ?_) _ _
  exact rB_X12_weak_61 _ _ hrec_27 _ _ hrec_38 _ _ hrec_52 _ _ _ _ _ _ _ hrec _
def gB_X12_weak_52 (rec_27 : Int → gM Int) (rec_38 : Int → gM Int) (x1 : Int) (x2 : Int) (x3 : Int) (x4 : Int) (rec_52 : Int → gM Int) (x5 : Int) : gM Int :=
  gcb (x5) (x1) ((x1 < x5)) (glet ((x4 + 1)) (fun x4_125 => rec_38 x4_125)) (g_X12_weak_61 rec_27 rec_38 rec_52 x1 x2 x3 x4 x5 0)
set_option maxRecDepth 20000 in
theorem rB_X12_weak_52 (frec_27 : Int → hf_M Int) (rec_27 : Int → gM Int) (hrec_27 : ∀ s : Int, gr (frec_27 s) (rec_27 s)) (frec_38 : Int → hf_M Int) (rec_38 : Int → gM Int) (hrec_38 : ∀ s : Int, gr (frec_38 s) (rec_38 s)) (x1 : Int) (x2 : Int) (x3 : Int) (x4 : Int) (frec_52 : Int → hf_M Int) (rec_52 : Int → gM Int) (hrec_52 : ∀ s : Int, gr (frec_52 s) (rec_52 s)) (x5 : Int) : gr (B_X12_weak_52 frec_27 frec_38 69 x1 x2 x3 x4 frec_52 x5) (gB_X12_weak_52 rec_27 rec_38 x1 x2 x3 x4 rec_52 x5) := by
  unfold B_X12_weak_52 gB_X12_weak_52
  refine gr_cb ?_ ?_
  · refine gr_let (fun x4_125 => ?_)
    exact hrec_38 _
  · exact r_X12_weak_61 frec_27 rec_27 hrec_27 frec_38 rec_38 hrec_38 frec_52 rec_52 hrec_52 _ _ _ _ _ _
def g_X12_weak_52 (rec_27 : Int → gM Int) (rec_38 : Int → gM Int) (x1 : Int) (x2 : Int) (x3 : Int) (x4 : Int) (x5 : Int) : gM Int :=
  gfx (fun rec s => gB_X12_weak_52 rec_27 rec_38 x1 x2 x3 x4 rec s) hf_N x5
set_option maxRecDepth 20000 in
theorem r_X12_weak_52 (frec_27 : Int → hf_M Int) (rec_27 : Int → gM Int) (hrec_27 : ∀ s : Int, gr (frec_27 s) (rec_27 s)) (frec_38 : Int → hf_M Int) (rec_38 : Int → gM Int) (hrec_38 : ∀ s : Int, gr (frec_38 s) (rec_38 s)) (x1 : Int) (x2 : Int) (x3 : Int) (x4 : Int) (x5 : Int) : gr (f_X12_weak_52 frec_27 frec_38 69 x1 x2 x3 x4 x5) (g_X12_weak_52 rec_27 rec_38 x1 x2 x3 x4 x5) := by
  unfold f_X12_weak_52 g_X12_weak_52
  refine gr_fx (fun frec rec hrec s => ?_) _ _
  exact rB_X12_weak_52 _ _ hrec_27 _ _ hrec_38 _ _ _ _ _ _ hrec _
def gB_X12_weak_38 (rec_27 : Int → gM Int) (x1 : Int) (x2 : Int) (x3 : Int) (rec_38 : Int → gM Int) (x4 : Int) : gM Int :=
  gget (-6903) (fun v43 => gcb ((x4 + x3)) (v43) ((v43 < (x4 + x3))) (glet ((x3 + 1)) (fun x3_131 => rec_27 x3_131)) (g_X12_weak_52 rec_27 rec_38 x1 x2 x3 x4 1))
set_option maxRecDepth 20000 in
theorem rB_X12_weak_38 (frec_27 : Int → hf_M Int) (rec_27 : Int → gM Int) (hrec_27 : ∀ s : Int, gr (frec_27 s) (rec_27 s)) (x1 : Int) (x2 : Int) (x3 : Int) (frec_38 : Int → hf_M Int) (rec_38 : Int → gM Int) (hrec_38 : ∀ s : Int, gr (frec_38 s) (rec_38 s)) (x4 : Int) : gr (B_X12_weak_38 frec_27 69 x1 x2 x3 frec_38 x4) (gB_X12_weak_38 rec_27 x1 x2 x3 rec_38 x4) := by
  unfold B_X12_weak_38 gB_X12_weak_38
  refine gr_gf 69 (by decide) (by decide) rfl (by decide) rfl (fun v43 => ?_)
  refine gr_cb ?_ ?_
  · refine gr_let (fun x3_131 => ?_)
    exact hrec_27 _
  · exact r_X12_weak_52 frec_27 rec_27 hrec_27 frec_38 rec_38 hrec_38 _ _ _ _ _
def g_X12_weak_38 (rec_27 : Int → gM Int) (x1 : Int) (x2 : Int) (x3 : Int) (x4 : Int) : gM Int :=
  gfx (fun rec s => gB_X12_weak_38 rec_27 x1 x2 x3 rec s) hf_N x4
set_option maxRecDepth 20000 in
theorem r_X12_weak_38 (frec_27 : Int → hf_M Int) (rec_27 : Int → gM Int) (hrec_27 : ∀ s : Int, gr (frec_27 s) (rec_27 s)) (x1 : Int) (x2 : Int) (x3 : Int) (x4 : Int) : gr (f_X12_weak_38 frec_27 69 x1 x2 x3 x4) (g_X12_weak_38 rec_27 x1 x2 x3 x4) := by
  unfold f_X12_weak_38 g_X12_weak_38
  refine gr_fx (fun frec rec hrec s => ?_) _ _
  exact rB_X12_weak_38 _ _ hrec_27 _ _ _ _ _ hrec _
def gB_X12_weak_27 (x1 : Int) (x2 : Int) (rec_27 : Int → gM Int) (x3 : Int) : gM Int :=
  gget (-6903) (fun v29 => gcb (x3) (v29) ((v29 < x3)) (gget (-6903) (fun v140 => gbd (g_X12_weakAt 0 v140 0 x1) (fun v145 => gck ((hf_inI v145) ∧ (hf_inI 1000000)) (glet ((if (v145 < 1000000) then v145 else (-2))) (fun w162 => gret (w162)))))) (g_X12_weak_38 rec_27 x1 x2 x3 0))
set_option maxRecDepth 20000 in
theorem rB_X12_weak_27 (x1 : Int) (x2 : Int) (frec_27 : Int → hf_M Int) (rec_27 : Int → gM Int) (hrec_27 : ∀ s : Int, gr (frec_27 s) (rec_27 s)) (x3 : Int) : gr (B_X12_weak_27 69 x1 x2 frec_27 x3) (gB_X12_weak_27 x1 x2 rec_27 x3) := by
  unfold B_X12_weak_27 gB_X12_weak_27
  refine gr_gf 69 (by decide) (by decide) rfl (by decide) rfl (fun v29 => ?_)
  refine gr_cb ?_ ?_
  · refine gr_gf 69 (by decide) (by decide) rfl (by decide) rfl (fun v140 => ?_)
    refine gr_bd (gr_ob 69 (by decide) (by decide) rfl (r_X12_weakAt _ _ _ _)) (fun v145 => ?_)
    refine gr_ck (fun _ => ?_)
    refine gr_let (fun w162 => ?_)
    exact gr_ret _
  · exact r_X12_weak_38 frec_27 rec_27 hrec_27 _ _ _ _
def g_X12_weak_27 (x1 : Int) (x2 : Int) (x3 : Int) : gM Int :=
  gfx (fun rec s => gB_X12_weak_27 x1 x2 rec s) hf_N x3
set_option maxRecDepth 20000 in
theorem r_X12_weak_27 (x1 : Int) (x2 : Int) (x3 : Int) : gr (f_X12_weak_27 69 x1 x2 x3) (g_X12_weak_27 x1 x2 x3) := by
  unfold f_X12_weak_27 g_X12_weak_27
  refine gr_fx (fun frec rec hrec s => ?_) _ _
  exact rB_X12_weak_27 _ _ _ _ hrec _
def g_X12_weak (x1 : Int) (x2 : Int) : gM Int :=
  gput (-6902) (0) (gbd (g_X12_isIn x1 1 4) (fun v8 => gcz (v8) ((v8 = 0)) (gret ((-1))) (gbd (g_X12_isIn x2 0 3) (fun v17 => gcz (v17) ((¬ (v17 = 0))) (g_X12_weak_27 x1 x2 1) (gret ((-1)))))))
set_option maxRecDepth 20000 in
theorem r_X12_weak (x1 : Int) (x2 : Int) : gr (f_X12_weak 69 x1 x2) (g_X12_weak x1 x2) := by
  unfold f_X12_weak g_X12_weak
  refine gr_pf 69 (by decide) (by decide) rfl (by decide) (by decide) rfl rfl ?_
  refine gr_bd (r_X12_isIn _ _ _) (fun v8 => ?_)
  refine gr_cz ?_ ?_
  · exact gr_ret _
  · refine gr_bd (r_X12_isIn _ _ _) (fun v17 => ?_)
    refine gr_cz ?_ ?_
    · exact r_X12_weak_27 _ _ _
    · exact gr_ret _
def gB_J7_fill_5_o50 (x1 : Int) (x3 : Int) (rec_5 : Int → gM Int) (x2 : Int) : gM Int :=
  gcb (x2) (x3) ((x3 ≤ x2)) (gret (0)) (gas 50 10 (x2) (x1) (glet ((x2 + 1)) (fun x2_14 => rec_5 x2_14)))
set_option maxRecDepth 20000 in
theorem rB_J7_fill_5_o50 (x1 : Int) (x3 : Int) (frec_5 : Int → hf_M Int) (rec_5 : Int → gM Int) (hrec_5 : ∀ s : Int, gr (frec_5 s) (rec_5 s)) (x2 : Int) : gr (B_J7_fill_53178_5 50 x1 x3 frec_5 x2) (gB_J7_fill_5_o50 x1 x3 rec_5 x2) := by
  unfold B_J7_fill_53178_5 gB_J7_fill_5_o50
  refine gr_cb ?_ ?_
  · exact gr_ret _
  · refine gr_as 50 10 (by decide) (by decide) rfl (by decide) rfl rfl ?_
    refine gr_let (fun x2_14 => ?_)
    exact hrec_5 _
def g_J7_fill_5_o50 (x1 : Int) (x2 : Int) (x3 : Int) : gM Int :=
  gfx (fun rec s => gB_J7_fill_5_o50 x1 x3 rec s) hf_N x2
set_option maxRecDepth 20000 in
theorem r_J7_fill_5_o50 (x1 : Int) (x2 : Int) (x3 : Int) : gr (f_J7_fill_53178_5 50 x1 x2 x3) (g_J7_fill_5_o50 x1 x2 x3) := by
  unfold f_J7_fill_53178_5 g_J7_fill_5_o50
  refine gr_fx (fun frec rec hrec s => ?_) _ _
  exact rB_J7_fill_5_o50 _ _ _ _ hrec _
def g_J7_fill_o50 (x1 : Int) : gM Int :=
  g_J7_fill_5_o50 x1 0 10
set_option maxRecDepth 20000 in
theorem r_J7_fill_o50 (x1 : Int) : gr (f_J7_fill_53178 50 x1) (g_J7_fill_o50 x1) := by
  unfold f_J7_fill_53178 g_J7_fill_o50
  refine gr_an 50 10 (by decide) (by decide) rfl rfl ?_
  exact r_J7_fill_5_o50 _ _ _
def gB_X11_addRound_13 (rec_2 : Int → gM Int) (x2 : Int) (x3 : Int) (rec_13 : Int × Int → gM Int) (x4 : Int) (x5 : Int) : gM Int :=
  gck ((hf_inI x2) ∧ (hf_inI x3)) (glet ((min x2 x3)) (fun v17 => gcb (x5) (v17) ((v17 < x5)) (gget (-200) (fun v54 => gck ((hf_inI x4) ∧ (hf_inI (v54 + 1))) (glet ((min x4 (v54 + 1))) (fun v59 => gas 50 10 (x3) (v59) (glet ((x3 + (-1))) (fun x3_63 => rec_2 x3_63)))))) (gal 50 10 ((x3 - x5)) (fun v33 => glet ((x4 + v33)) (fun x4_35 => glet ((x5 + 1)) (fun x5_37 => rec_13 (x4_35, x5_37)))))))
set_option maxRecDepth 20000 in
theorem rB_X11_addRound_13 (frec_2 : Int → hf_M Int) (rec_2 : Int → gM Int) (hrec_2 : ∀ s : Int, gr (frec_2 s) (rec_2 s)) (x2 : Int) (x3 : Int) (frec_13 : Int × Int → hf_M Int) (rec_13 : Int × Int → gM Int) (hrec_13 : ∀ s : Int × Int, gr (frec_13 s) (rec_13 s)) (x4 : Int) (x5 : Int) : gr (B_X11_addRound_13 frec_2 1 x2 x3 frec_13 x4 x5) (gB_X11_addRound_13 rec_2 x2 x3 rec_13 x4 x5) := by
  unfold B_X11_addRound_13 gB_X11_addRound_13
  refine gr_ck (fun _ => ?_)
  refine gr_let (fun v17 => ?_)
  refine gr_cb ?_ ?_
  · refine gr_gfp 1 50 (by decide) (by decide) rfl rfl (by decide) ?_
    refine gr_gfp 1 2 (by decide) (by decide) rfl rfl (by decide) ?_
    refine gr_gf 2 (by decide) (by decide) rfl (by decide) rfl (fun v54 => ?_)
    refine gr_ck (fun _ => ?_)
    refine gr_let (fun v59 => ?_)
    refine gr_as 50 10 (by decide) (by decide) rfl (by decide) rfl rfl ?_
    refine gr_let (fun x3_63 => ?_)
    exact hrec_2 _
  · refine gr_gfp 1 50 (by decide) (by decide) rfl rfl (by decide) ?_
    refine gr_al 50 10 (by decide) (by decide) rfl (by decide) rfl (fun v33 => ?_)
    refine gr_let (fun x4_35 => ?_)
    refine gr_let (fun x5_37 => ?_)
    exact hrec_13 _
def g_X11_addRound_13 (rec_2 : Int → gM Int) (x2 : Int) (x3 : Int) (x4 : Int) (x5 : Int) : gM Int :=
  gfx (fun rec s => gB_X11_addRound_13 rec_2 x2 x3 rec s.1 s.2) hf_N (x4, x5)
set_option maxRecDepth 20000 in
theorem r_X11_addRound_13 (frec_2 : Int → hf_M Int) (rec_2 : Int → gM Int) (hrec_2 : ∀ s : Int, gr (frec_2 s) (rec_2 s)) (x2 : Int) (x3 : Int) (x4 : Int) (x5 : Int) : gr (f_X11_addRound_13 frec_2 1 x2 x3 x4 x5) (g_X11_addRound_13 rec_2 x2 x3 x4 x5) := by
  unfold f_X11_addRound_13 g_X11_addRound_13
  refine gr_fx (fun frec rec hrec s => ?_) _ _
  exact rB_X11_addRound_13 _ _ hrec_2 _ _ _ _ hrec _ _
def gB_X11_addRound_2 (x2 : Int) (rec_2 : Int → gM Int) (x3 : Int) : gM Int :=
  gcb (x3) (1) ((x3 < 1)) (gret (0)) (g_X11_addRound_13 rec_2 x2 x3 0 0)
set_option maxRecDepth 20000 in
theorem rB_X11_addRound_2 (x2 : Int) (frec_2 : Int → hf_M Int) (rec_2 : Int → gM Int) (hrec_2 : ∀ s : Int, gr (frec_2 s) (rec_2 s)) (x3 : Int) : gr (B_X11_addRound_2 1 x2 frec_2 x3) (gB_X11_addRound_2 x2 rec_2 x3) := by
  unfold B_X11_addRound_2 gB_X11_addRound_2
  refine gr_cb ?_ ?_
  · exact gr_ret _
  · exact r_X11_addRound_13 frec_2 rec_2 hrec_2 _ _ _ _
def g_X11_addRound_2 (x2 : Int) (x3 : Int) : gM Int :=
  gfx (fun rec s => gB_X11_addRound_2 x2 rec s) hf_N x3
set_option maxRecDepth 20000 in
theorem r_X11_addRound_2 (x2 : Int) (x3 : Int) : gr (f_X11_addRound_2 1 x2 x3) (g_X11_addRound_2 x2 x3) := by
  unfold f_X11_addRound_2 g_X11_addRound_2
  refine gr_fx (fun frec rec hrec s => ?_) _ _
  exact rB_X11_addRound_2 _ _ _ hrec _
def g_X11_addRound (x1 : Int) (x2 : Int) : gM Int :=
  g_X11_addRound_2 x2 x1
set_option maxRecDepth 20000 in
theorem r_X11_addRound (x1 : Int) (x2 : Int) : gr (f_X11_addRound 1 x1 x2) (g_X11_addRound x1 x2) := by
  unfold f_X11_addRound g_X11_addRound
  exact r_X11_addRound_2 _ _
def gB_X11_rounds_33 (x1 : Int) (x2 : Int) (rec_33 : Int → gM Int) (x3 : Int) : gM Int :=
  gget (-200) (fun v38 => gcb (x3) (v38) ((v38 ≤ x3)) (gret (x3)) (gal 50 10 (x1) (fun v49 => gget (-200) (fun v54 => gcb (v49) (v54) ((v54 < v49)) (gret (x3)) (gbd (g_X11_addRound x1 x2) (fun _ => glet ((x3 + 1)) (fun x3_66 => rec_33 x3_66)))))))
set_option maxRecDepth 20000 in
theorem rB_X11_rounds_33 (x1 : Int) (x2 : Int) (frec_33 : Int → hf_M Int) (rec_33 : Int → gM Int) (hrec_33 : ∀ s : Int, gr (frec_33 s) (rec_33 s)) (x3 : Int) : gr (B_X11_rounds_33 1 x1 x2 frec_33 x3) (gB_X11_rounds_33 x1 x2 rec_33 x3) := by
  unfold B_X11_rounds_33 gB_X11_rounds_33
  refine gr_gfp 1 2 (by decide) (by decide) rfl rfl (by decide) ?_
  refine gr_gf 2 (by decide) (by decide) rfl (by decide) rfl (fun v38 => ?_)
  refine gr_cb ?_ ?_
  · exact gr_ret _
  · refine gr_gfp 1 50 (by decide) (by decide) rfl rfl (by decide) ?_
    refine gr_al 50 10 (by decide) (by decide) rfl (by decide) rfl (fun v49 => ?_)
    refine gr_gfp 1 2 (by decide) (by decide) rfl rfl (by decide) ?_
    refine gr_gf 2 (by decide) (by decide) rfl (by decide) rfl (fun v54 => ?_)
    refine gr_cb ?_ ?_
    · exact gr_ret _
    · refine gr_bd (gr_ob 1 (by decide) (by decide) rfl (r_X11_addRound _ _)) (fun _ => ?_)
      refine gr_let (fun x3_66 => ?_)
      exact hrec_33 _
def g_X11_rounds_33 (x1 : Int) (x2 : Int) (x3 : Int) : gM Int :=
  gfx (fun rec s => gB_X11_rounds_33 x1 x2 rec s) hf_N x3
set_option maxRecDepth 20000 in
theorem r_X11_rounds_33 (x1 : Int) (x2 : Int) (x3 : Int) : gr (f_X11_rounds_33 1 x1 x2 x3) (g_X11_rounds_33 x1 x2 x3) := by
  unfold f_X11_rounds_33 g_X11_rounds_33
  refine gr_fx (fun frec rec hrec s => ?_) _ _
  exact rB_X11_rounds_33 _ _ _ _ hrec _
def g_X11_rounds (x1 : Int) (x2 : Int) : gM Int :=
  gcb (x1) (1) ((x1 < 1)) (gret ((-1))) (gcb (x1) (9) ((9 < x1)) (gret ((-1))) (gcb (x2) (1) ((x2 < 1)) (gret ((-1))) (gcb (x2) (4) ((x2 ≤ 4)) (gbd (g_J7_fill_o50 1) (fun _ => g_X11_rounds_33 x1 x2 0)) (gret ((-1))))))
set_option maxRecDepth 20000 in
theorem r_X11_rounds (x1 : Int) (x2 : Int) : gr (f_X11_rounds 1 x1 x2) (g_X11_rounds x1 x2) := by
  unfold f_X11_rounds g_X11_rounds
  refine gr_cb ?_ ?_
  · exact gr_ret _
  · refine gr_cb ?_ ?_
    · exact gr_ret _
    · refine gr_cb ?_ ?_
      · exact gr_ret _
      · refine gr_cb ?_ ?_
        · refine gr_gfp 1 50 (by decide) (by decide) rfl rfl (by decide) ?_
          refine gr_bd (r_J7_fill_o50 _) (fun _ => ?_)
          exact r_X11_rounds_33 _ _ _
        · exact gr_ret _
def gB_X12_rounds_100 (rec_49 : Int → gM Int) (rec_73 : Int → gM Int) (x1 : Int) (x2 : Int) (x3 : Int) (x4 : Int) (x5 : Int) (rec_100 : Int × Int → gM Int) (x6 : Int) (x7 : Int) : gM Int :=
  gcb (x7) (x5) ((x5 < x7)) (gas 94 410 (((10 * x3) + x4)) (x6) (glet ((x4 + 1)) (fun x4_151 => rec_73 x4_151))) (gal 94 410 ((((10 * (x3 - 1)) + x4) - x7)) (fun v125 => glet ((x6 + (v125 + 1))) (fun x6_129 => glet ((x7 + 1)) (fun x7_131 => rec_100 (x6_129, x7_131)))))
set_option maxRecDepth 20000 in
theorem rB_X12_rounds_100 (frec_49 : Int → hf_M Int) (rec_49 : Int → gM Int) (hrec_49 : ∀ s : Int, gr (frec_49 s) (rec_49 s)) (frec_73 : Int → hf_M Int) (rec_73 : Int → gM Int) (hrec_73 : ∀ s : Int, gr (frec_73 s) (rec_73 s)) (x1 : Int) (x2 : Int) (x3 : Int) (x4 : Int) (x5 : Int) (frec_100 : Int × Int → hf_M Int) (rec_100 : Int × Int → gM Int) (hrec_100 : ∀ s : Int × Int, gr (frec_100 s) (rec_100 s)) (x6 : Int) (x7 : Int) : gr (B_X12_rounds_100 frec_49 frec_73 69 x1 x2 x3 x4 x5 frec_100 x6 x7) (gB_X12_rounds_100 rec_49 rec_73 x1 x2 x3 x4 x5 rec_100 x6 x7) := by
  unfold B_X12_rounds_100 gB_X12_rounds_100
  refine gr_cb ?_ ?_
  · refine gr_gfp 69 94 (by decide) (by decide) rfl rfl (by decide) ?_
    refine gr_as 94 410 (by decide) (by decide) rfl (by decide) rfl rfl ?_
    refine gr_let (fun x4_151 => ?_)
    exact hrec_73 _
  · refine gr_gfp 69 94 (by decide) (by decide) rfl rfl (by decide) ?_
    refine gr_al 94 410 (by decide) (by decide) rfl (by decide) rfl (fun v125 => ?_)
    refine gr_let (fun x6_129 => ?_)
    refine gr_let (fun x7_131 => ?_)
    exact hrec_100 _
def g_X12_rounds_100 (rec_49 : Int → gM Int) (rec_73 : Int → gM Int) (x1 : Int) (x2 : Int) (x3 : Int) (x4 : Int) (x5 : Int) (x6 : Int) (x7 : Int) : gM Int :=
  gfx (fun rec s => gB_X12_rounds_100 rec_49 rec_73 x1 x2 x3 x4 x5 rec s.1 s.2) hf_N (x6, x7)
set_option maxRecDepth 20000 in
theorem r_X12_rounds_100 (frec_49 : Int → hf_M Int) (rec_49 : Int → gM Int) (hrec_49 : ∀ s : Int, gr (frec_49 s) (rec_49 s)) (frec_73 : Int → hf_M Int) (rec_73 : Int → gM Int) (hrec_73 : ∀ s : Int, gr (frec_73 s) (rec_73 s)) (x1 : Int) (x2 : Int) (x3 : Int) (x4 : Int) (x5 : Int) (x6 : Int) (x7 : Int) : gr (f_X12_rounds_100 frec_49 frec_73 69 x1 x2 x3 x4 x5 x6 x7) (g_X12_rounds_100 rec_49 rec_73 x1 x2 x3 x4 x5 x6 x7) := by
  unfold f_X12_rounds_100 g_X12_rounds_100
  refine gr_fx (fun frec rec hrec s => ?_) _ _
  exact rB_X12_rounds_100 _ _ hrec_49 _ _ hrec_73 _ _ _ _ _ _ _ hrec _ _
def gB_X12_rounds_73 (rec_49 : Int → gM Int) (x1 : Int) (x2 : Int) (x3 : Int) (rec_73 : Int → gM Int) (x4 : Int) : gM Int :=
  gcb (x4) (10) ((10 ≤ x4)) (rec_49 x3) (gck ((hf_inI x4) ∧ (hf_inI x2)) (glet ((if (x2 ≤ x4) then x2 else x4)) (fun w92 => g_X12_rounds_100 rec_49 rec_73 x1 x2 x3 x4 w92 (-1) 0)))
set_option maxRecDepth 20000 in
theorem rB_X12_rounds_73 (frec_49 : Int → hf_M Int) (rec_49 : Int → gM Int) (hrec_49 : ∀ s : Int, gr (frec_49 s) (rec_49 s)) (x1 : Int) (x2 : Int) (x3 : Int) (frec_73 : Int → hf_M Int) (rec_73 : Int → gM Int) (hrec_73 : ∀ s : Int, gr (frec_73 s) (rec_73 s)) (x4 : Int) : gr (B_X12_rounds_73 frec_49 69 x1 x2 x3 frec_73 x4) (gB_X12_rounds_73 rec_49 x1 x2 x3 rec_73 x4) := by
  unfold B_X12_rounds_73 gB_X12_rounds_73
  refine gr_cb ?_ ?_
  · exact hrec_49 _
  · refine gr_ck (fun _ => ?_)
    refine gr_let (fun w92 => ?_)
    exact r_X12_rounds_100 frec_49 rec_49 hrec_49 frec_73 rec_73 hrec_73 _ _ _ _ _ _ _
def g_X12_rounds_73 (rec_49 : Int → gM Int) (x1 : Int) (x2 : Int) (x3 : Int) (x4 : Int) : gM Int :=
  gfx (fun rec s => gB_X12_rounds_73 rec_49 x1 x2 x3 rec s) hf_N x4
set_option maxRecDepth 20000 in
theorem r_X12_rounds_73 (frec_49 : Int → hf_M Int) (rec_49 : Int → gM Int) (hrec_49 : ∀ s : Int, gr (frec_49 s) (rec_49 s)) (x1 : Int) (x2 : Int) (x3 : Int) (x4 : Int) : gr (f_X12_rounds_73 frec_49 69 x1 x2 x3 x4) (g_X12_rounds_73 rec_49 x1 x2 x3 x4) := by
  unfold f_X12_rounds_73 g_X12_rounds_73
  refine gr_fx (fun frec rec hrec s => ?_) _ _
  exact rB_X12_rounds_73 _ _ hrec_49 _ _ _ _ _ hrec _
def gB_X12_rounds_49 (x1 : Int) (x2 : Int) (rec_49 : Int → gM Int) (x3 : Int) : gM Int :=
  gal 94 410 (((10 * x3) + x1)) (fun v59 => gget (-6903) (fun v61 => gcb (v59) (v61) ((v61 ≤ v59)) (gret (x3)) (glet ((x3 + 1)) (fun x3_67 => g_X12_rounds_73 rec_49 x1 x2 x3_67 0))))
set_option maxRecDepth 20000 in
theorem rB_X12_rounds_49 (x1 : Int) (x2 : Int) (frec_49 : Int → hf_M Int) (rec_49 : Int → gM Int) (hrec_49 : ∀ s : Int, gr (frec_49 s) (rec_49 s)) (x3 : Int) : gr (B_X12_rounds_49 69 x1 x2 frec_49 x3) (gB_X12_rounds_49 x1 x2 rec_49 x3) := by
  unfold B_X12_rounds_49 gB_X12_rounds_49
  refine gr_gfp 69 94 (by decide) (by decide) rfl rfl (by decide) ?_
  refine gr_al 94 410 (by decide) (by decide) rfl (by decide) rfl (fun v59 => ?_)
  refine gr_gf 69 (by decide) (by decide) rfl (by decide) rfl (fun v61 => ?_)
  refine gr_cb ?_ ?_
  · exact gr_ret _
  · refine gr_let (fun x3_67 => ?_)
    exact r_X12_rounds_73 frec_49 rec_49 hrec_49 _ _ _ _
def g_X12_rounds_49 (x1 : Int) (x2 : Int) (x3 : Int) : gM Int :=
  gfx (fun rec s => gB_X12_rounds_49 x1 x2 rec s) hf_N x3
set_option maxRecDepth 20000 in
theorem r_X12_rounds_49 (x1 : Int) (x2 : Int) (x3 : Int) : gr (f_X12_rounds_49 69 x1 x2 x3) (g_X12_rounds_49 x1 x2 x3) := by
  unfold f_X12_rounds_49 g_X12_rounds_49
  refine gr_fx (fun frec rec hrec s => ?_) _ _
  exact rB_X12_rounds_49 _ _ _ _ hrec _
def gB_X12_rounds_28 (x1 : Int) (x2 : Int) (rec_28 : Int → gM Int) (x3 : Int) : gM Int :=
  gcb (x3) (10) ((10 ≤ x3)) (g_X12_rounds_49 x1 x2 0) (gas 94 410 (x3) (0) (glet ((x3 + 1)) (fun x3_41 => rec_28 x3_41)))
set_option maxRecDepth 20000 in
theorem rB_X12_rounds_28 (x1 : Int) (x2 : Int) (frec_28 : Int → hf_M Int) (rec_28 : Int → gM Int) (hrec_28 : ∀ s : Int, gr (frec_28 s) (rec_28 s)) (x3 : Int) : gr (B_X12_rounds_28 69 x1 x2 frec_28 x3) (gB_X12_rounds_28 x1 x2 rec_28 x3) := by
  unfold B_X12_rounds_28 gB_X12_rounds_28
  refine gr_cb ?_ ?_
  · exact r_X12_rounds_49 _ _ _
  · refine gr_gfp 69 94 (by decide) (by decide) rfl rfl (by decide) ?_
    refine gr_as 94 410 (by decide) (by decide) rfl (by decide) rfl rfl ?_
    refine gr_let (fun x3_41 => ?_)
    exact hrec_28 _
def g_X12_rounds_28 (x1 : Int) (x2 : Int) (x3 : Int) : gM Int :=
  gfx (fun rec s => gB_X12_rounds_28 x1 x2 rec s) hf_N x3
set_option maxRecDepth 20000 in
theorem r_X12_rounds_28 (x1 : Int) (x2 : Int) (x3 : Int) : gr (f_X12_rounds_28 69 x1 x2 x3) (g_X12_rounds_28 x1 x2 x3) := by
  unfold f_X12_rounds_28 g_X12_rounds_28
  refine gr_fx (fun frec rec hrec s => ?_) _ _
  exact rB_X12_rounds_28 _ _ _ _ hrec _
def g_X12_rounds (x1 : Int) (x2 : Int) : gM Int :=
  gput (-6902) (0) (gbd (g_X12_isIn x1 1 9) (fun v9 => gcz (v9) ((v9 = 0)) (gret ((-1))) (gbd (g_X12_isIn x2 1 4) (fun v18 => gcz (v18) ((¬ (v18 = 0))) (g_X12_rounds_28 x1 x2 0) (gret ((-1)))))))
set_option maxRecDepth 20000 in
theorem r_X12_rounds (x1 : Int) (x2 : Int) : gr (f_X12_rounds 69 x1 x2) (g_X12_rounds x1 x2) := by
  unfold f_X12_rounds g_X12_rounds
  refine gr_pf 69 (by decide) (by decide) rfl (by decide) (by decide) rfl rfl ?_
  refine gr_bd (r_X12_isIn _ _ _) (fun v9 => ?_)
  refine gr_cz ?_ ?_
  · exact gr_ret _
  · refine gr_bd (r_X12_isIn _ _ _) (fun v18 => ?_)
    refine gr_cz ?_ ?_
    · exact r_X12_rounds_28 _ _ _
    · exact gr_ret _
def g_J6_bitCount (x0 : Int) : gM Int :=
  glet ((x0 - (hf_and (hf_ushr x0 1) 1431655765))) (fun x0_9 => glet (((hf_and x0_9 858993459) + (hf_and (hf_ushr x0_9 2) 858993459))) (fun x0_23 => glet ((hf_and (x0_23 + (hf_ushr x0_23 4)) 252645135)) (fun x0_33 => glet ((x0_33 + (hf_ushr x0_33 8))) (fun x0_40 => glet ((x0_40 + (hf_ushr x0_40 16))) (fun x0_47 => gret ((hf_and x0_47 63)))))))
set_option maxRecDepth 20000 in
theorem r_J6_bitCount (x0 : Int) : gr (f_J6_bitCount_0f7a4 x0) (g_J6_bitCount x0) := by
  unfold f_J6_bitCount_0f7a4 g_J6_bitCount
  refine gr_let (fun x0_9 => ?_)
  refine gr_let (fun x0_23 => ?_)
  refine gr_let (fun x0_33 => ?_)
  refine gr_let (fun x0_40 => ?_)
  refine gr_let (fun x0_47 => ?_)
  exact gr_ret _
def g_X2_fewestFrom_93 (rec_26 : Int × Int → gM Int) (x1 : Int) (x2 : Int) (x3 : Int) (x4 : Int) : gM Int :=
  glet ((x4 + 1)) (fun x4_93 => rec_26 (x3, x4_93))
set_option maxRecDepth 20000 in
theorem r_X2_fewestFrom_93 (frec_26 : Int × Int → hf_M Int) (rec_26 : Int × Int → gM Int) (hrec_26 : ∀ s : Int × Int, gr (frec_26 s) (rec_26 s)) (x1 : Int) (x2 : Int) (x3 : Int) (x4 : Int) : gr (f_X2_fewestFrom_93 frec_26 51 x1 x2 x3 x4) (g_X2_fewestFrom_93 rec_26 x1 x2 x3 x4) := by
  unfold f_X2_fewestFrom_93 g_X2_fewestFrom_93
  refine gr_let (fun x4_93 => ?_)
  exact hrec_26 _
def gB_X2_fewestFrom_26 (x1 : Int) (x2 : Int) (rec_26 : Int × Int → gM Int) (x3 : Int) (x4 : Int) : gM Int :=
  gcb (x4) (7) ((7 < x4)) (gret (x3)) (glet ((hf_and x2 ((hf_shl 1 (2 * x4)) - 1))) (fun x5_43 => glet ((x2 - x5_43)) (fun x6_49 => gcz (x5_43) ((x5_43 = 0)) (g_X2_fewestFrom_93 rec_26 x1 x2 x3 x4) (gcz (x6_49) ((x6_49 = 0)) (g_X2_fewestFrom_93 rec_26 x1 x2 x3 x4) (gget (-5100) (fun v62 => gald 22 v62 ((x1 - x5_43)) (fun v69 => gget (-5100) (fun v71 => gald 22 v71 ((x1 - x6_49)) (fun v78 => gck ((hf_inI v69) ∧ (hf_inI v78)) (glet ((max v69 v78)) (fun v79 => gck ((hf_inI x3) ∧ (hf_inI (v79 + 1))) (glet ((min x3 (v79 + 1))) (fun v89 => g_X2_fewestFrom_93 rec_26 x1 x2 v89 x4)))))))))))))
set_option maxRecDepth 20000 in
theorem rB_X2_fewestFrom_26 (x1 : Int) (x2 : Int) (frec_26 : Int × Int → hf_M Int) (rec_26 : Int × Int → gM Int) (hrec_26 : ∀ s : Int × Int, gr (frec_26 s) (rec_26 s)) (x3 : Int) (x4 : Int) : gr (B_X2_fewestFrom_26 51 x1 x2 frec_26 x3 x4) (gB_X2_fewestFrom_26 x1 x2 rec_26 x3 x4) := by
  unfold B_X2_fewestFrom_26 gB_X2_fewestFrom_26
  refine gr_cb ?_ ?_
  · exact gr_ret _
  · refine gr_let (fun x5_43 => ?_)
    refine gr_let (fun x6_49 => ?_)
    refine gr_cz ?_ ?_
    · exact r_X2_fewestFrom_93 frec_26 rec_26 hrec_26 _ _ _ _
    · refine gr_cz ?_ ?_
      · exact r_X2_fewestFrom_93 frec_26 rec_26 hrec_26 _ _ _ _
      · refine gr_gf 51 (by decide) (by decide) rfl (by decide) rfl (fun v62 => ?_)
        refine gr_ald (by decide) (fun v69 => ?_)
        refine gr_gf 51 (by decide) (by decide) rfl (by decide) rfl (fun v71 => ?_)
        refine gr_ald (by decide) (fun v78 => ?_)
        refine gr_ck (fun _ => ?_)
        refine gr_let (fun v79 => ?_)
        refine gr_ck (fun _ => ?_)
        refine gr_let (fun v89 => ?_)
        exact r_X2_fewestFrom_93 frec_26 rec_26 hrec_26 _ _ _ _
def g_X2_fewestFrom_26 (x1 : Int) (x2 : Int) (x3 : Int) (x4 : Int) : gM Int :=
  gfx (fun rec s => gB_X2_fewestFrom_26 x1 x2 rec s.1 s.2) hf_N (x3, x4)
set_option maxRecDepth 20000 in
theorem r_X2_fewestFrom_26 (x1 : Int) (x2 : Int) (x3 : Int) (x4 : Int) : gr (f_X2_fewestFrom_26 51 x1 x2 x3 x4) (g_X2_fewestFrom_26 x1 x2 x3 x4) := by
  unfold f_X2_fewestFrom_26 g_X2_fewestFrom_26
  refine gr_fx (fun frec rec hrec s => ?_) _ _
  exact rB_X2_fewestFrom_26 _ _ _ _ hrec _ _
def g_X2_fewestFrom (x1 : Int) : gM Int :=
  glet ((hf_and (hf_or x1 (hf_shr x1 1)) 21845)) (fun x2_9 => gbd (g_J6_bitCount x2_9) (fun v11 => gcb (v11) (1) ((1 < v11)) (g_X2_fewestFrom_26 x1 x2_9 100 1) (gret (0))))
set_option maxRecDepth 20000 in
theorem r_X2_fewestFrom (x1 : Int) : gr (f_X2_fewestFrom 51 x1) (g_X2_fewestFrom x1) := by
  unfold f_X2_fewestFrom g_X2_fewestFrom
  refine gr_let (fun x2_9 => ?_)
  refine gr_bd (r_J6_bitCount _) (fun v11 => ?_)
  refine gr_cb ?_ ?_
  · exact r_X2_fewestFrom_26 _ _ _ _
  · exact gr_ret _
def gB_X2_fewestFalls_42 (x4 : Int) (rec_42 : Unit → gM Int) : gM Int :=
  gget (-5101) (fun v43 => gcb (v43) (x4) ((x4 < v43)) (gget (-5100) (fun v83 => gald 22 v83 (x4) (fun v88 => gret (v88)))) (gget (-5100) (fun v52 => gget (-5101) (fun v56 => gget (-5101) (fun v61 => gbd (g_X2_fewestFrom v61) (fun v64 => gck (((-128) ≤ (hf_i2b v64)) ∧ ((hf_i2b v64) ≤ 127)) (gasd 22 v52 (v56) ((hf_i2b v64)) (gget (-5101) (fun v71 => gput (-5101) ((v71 + 1)) (rec_42 ()))))))))))
set_option maxRecDepth 20000 in
theorem rB_X2_fewestFalls_42 (x4 : Int) (frec_42 : Unit → hf_M Int) (rec_42 : Unit → gM Int) (hrec_42 : ∀ s : Unit, gr (frec_42 s) (rec_42 s)) : gr (B_X2_fewestFalls_42 51 x4 frec_42) (gB_X2_fewestFalls_42 x4 rec_42) := by
  unfold B_X2_fewestFalls_42 gB_X2_fewestFalls_42
  refine gr_gf 51 (by decide) (by decide) rfl (by decide) rfl (fun v43 => ?_)
  refine gr_cb ?_ ?_
  · refine gr_gf 51 (by decide) (by decide) rfl (by decide) rfl (fun v83 => ?_)
    refine gr_ald (by decide) (fun v88 => ?_)
    exact gr_ret _
  · refine gr_gf 51 (by decide) (by decide) rfl (by decide) rfl (fun v52 => ?_)
    refine gr_gf 51 (by decide) (by decide) rfl (by decide) rfl (fun v56 => ?_)
    refine gr_gf 51 (by decide) (by decide) rfl (by decide) rfl (fun v61 => ?_)
    refine gr_bd (gr_ob 51 (by decide) (by decide) rfl (r_X2_fewestFrom _)) (fun v64 => ?_)
    refine gr_ck (fun _ => ?_)
    refine gr_asd (by decide) ?_
    refine gr_gf 51 (by decide) (by decide) rfl (by decide) rfl (fun v71 => ?_)
    refine gr_pf 51 (by decide) (by decide) rfl (by decide) (by decide) rfl rfl ?_
    exact hrec_42 _
def g_X2_fewestFalls_42 (x4 : Int) : gM Int :=
  gfx (fun rec s => gB_X2_fewestFalls_42 x4 rec) hf_N ()
set_option maxRecDepth 20000 in
theorem r_X2_fewestFalls_42 (x4 : Int) : gr (f_X2_fewestFalls_42 51 x4) (g_X2_fewestFalls_42 x4) := by
  unfold f_X2_fewestFalls_42 g_X2_fewestFalls_42
  refine gr_fx (fun frec rec hrec s => ?_) _ _
  exact rB_X2_fewestFalls_42 _ _ _ hrec
def g_X2_fewestFalls_29 (x2 : Int) (x3 : Int) : gM Int :=
  glet (((x2 + 1) * (hf_and 21845 (x3 - 1)))) (fun x4_40 => g_X2_fewestFalls_42 x4_40)
set_option maxRecDepth 20000 in
theorem r_X2_fewestFalls_29 (x2 : Int) (x3 : Int) : gr (f_X2_fewestFalls_29 51 x2 x3) (g_X2_fewestFalls_29 x2 x3) := by
  unfold f_X2_fewestFalls_29 g_X2_fewestFalls_29
  refine gr_let (fun x4_40 => ?_)
  exact r_X2_fewestFalls_42 _
def g_X2_fewestFalls (x1 : Int) (x2 : Int) : gM Int :=
  glet ((hf_shl 1 (2 * (x1 + 1)))) (fun x3_7 => gget (-5100) (fun v9 => gand 22 v9 (fun v12 => gcb (v12) (x3_7) ((x3_7 ≤ v12)) (g_X2_fewestFalls_29 x2 x3_7) (gget (-5100) (fun v19 => gbd (g_J7_copyOf v19 x3_7) (fun v23 => gput (-5100) (v23) (g_X2_fewestFalls_29 x2 x3_7)))))))
set_option maxRecDepth 20000 in
theorem r_X2_fewestFalls (x1 : Int) (x2 : Int) : gr (f_X2_fewestFalls 51 x1 x2) (g_X2_fewestFalls x1 x2) := by
  unfold f_X2_fewestFalls g_X2_fewestFalls
  refine gr_let (fun x3_7 => ?_)
  refine gr_gf 51 (by decide) (by decide) rfl (by decide) rfl (fun v9 => ?_)
  refine gr_and (fun v12 => ?_)
  refine gr_cb ?_ ?_
  · exact r_X2_fewestFalls_29 _ _
  · refine gr_gf 51 (by decide) (by decide) rfl (by decide) rfl (fun v19 => ?_)
    refine gr_bd (r_J7_copyOf _ _) (fun v23 => ?_)
    refine gr_pf 51 (by decide) (by decide) rfl (by decide) (by decide) rfl rfl ?_
    exact r_X2_fewestFalls_29 _ _
def g_X11_lies (x1 : Int) (x2 : Int) : gM Int :=
  gcb (x1) (1) ((x1 < 1)) (gret ((-1))) (gcb (x1) (7) ((7 < x1)) (gret ((-1))) (gbd (g_X11_isWithin x2 2) (fun v13 => gcz (v13) ((¬ (v13 = 0))) (gbd (g_X2_fewestFalls x1 x2) (fun v27 => gret (v27))) (gret ((-1))))))
set_option maxRecDepth 20000 in
theorem r_X11_lies (x1 : Int) (x2 : Int) : gr (f_X11_lies 1 x1 x2) (g_X11_lies x1 x2) := by
  unfold f_X11_lies g_X11_lies
  refine gr_cb ?_ ?_
  · exact gr_ret _
  · refine gr_cb ?_ ?_
    · exact gr_ret _
    · refine gr_bd (r_X11_isWithin _ _) (fun v13 => ?_)
      refine gr_cz ?_ ?_
      · refine gr_gfp 1 51 (by decide) (by decide) rfl rfl (by decide) ?_
        refine gr_bd (gr_ob 51 (by decide) (by decide) rfl (r_X2_fewestFalls _ _)) (fun v27 => ?_)
        exact gr_ret _
      · exact gr_ret _
def gB_X12_digitOf_6 (x2 : Int) (x3 : Int) (rec_6 : Int × Int → gM Int) (x4 : Int) (x5 : Int) : gM Int :=
  gcb (x5) (x2) ((x2 ≤ x5)) (grm (x4) (x3) (fun v27 => gret (v27))) (gdv (x4) (x3) (fun v15 => glet ((x5 + 1)) (fun x5_18 => rec_6 (v15, x5_18))))
set_option maxRecDepth 20000 in
theorem rB_X12_digitOf_6 (x2 : Int) (x3 : Int) (frec_6 : Int × Int → hf_M Int) (rec_6 : Int × Int → gM Int) (hrec_6 : ∀ s : Int × Int, gr (frec_6 s) (rec_6 s)) (x4 : Int) (x5 : Int) : gr (B_X12_digitOf_6 x2 x3 frec_6 x4 x5) (gB_X12_digitOf_6 x2 x3 rec_6 x4 x5) := by
  unfold B_X12_digitOf_6 gB_X12_digitOf_6
  refine gr_cb ?_ ?_
  · refine gr_rm (fun v27 => ?_)
    exact gr_ret _
  · refine gr_dv (fun v15 => ?_)
    refine gr_let (fun x5_18 => ?_)
    exact hrec_6 _
def g_X12_digitOf_6 (x2 : Int) (x3 : Int) (x4 : Int) (x5 : Int) : gM Int :=
  gfx (fun rec s => gB_X12_digitOf_6 x2 x3 rec s.1 s.2) hf_N (x4, x5)
set_option maxRecDepth 20000 in
theorem r_X12_digitOf_6 (x2 : Int) (x3 : Int) (x4 : Int) (x5 : Int) : gr (f_X12_digitOf_6 x2 x3 x4 x5) (g_X12_digitOf_6 x2 x3 x4 x5) := by
  unfold f_X12_digitOf_6 g_X12_digitOf_6
  refine gr_fx (fun frec rec hrec s => ?_) _ _
  exact rB_X12_digitOf_6 _ _ _ _ hrec _ _
def g_X12_digitOf (x1 : Int) (x2 : Int) (x3 : Int) : gM Int :=
  g_X12_digitOf_6 x2 x3 x1 0
set_option maxRecDepth 20000 in
theorem r_X12_digitOf (x1 : Int) (x2 : Int) (x3 : Int) : gr (f_X12_digitOf 69 x1 x2 x3) (g_X12_digitOf x1 x2 x3) := by
  unfold f_X12_digitOf g_X12_digitOf
  exact r_X12_digitOf_6 _ _ _ _
def gB_X12_canBe_6 (x1 : Int) (x2 : Int) (x3 : Int) (rec_6 : Int × Int → gM Int) (x4 : Int) (x5 : Int) : gM Int :=
  gcb (x5) (x2) ((x2 < x5)) (gret (x4)) (gbd (g_X12_digitOf x1 x5 x3) (fun v19 => gck ((hf_inI v19) ∧ (hf_inI (x3 - 1))) (glet ((if ((x3 - 1) ≤ v19) then 0 else 1)) (fun w33 => glet ((x4 + w33)) (fun x4_34 => glet ((x5 + 1)) (fun x5_36 => rec_6 (x4_34, x5_36)))))))
set_option maxRecDepth 20000 in
theorem rB_X12_canBe_6 (x1 : Int) (x2 : Int) (x3 : Int) (frec_6 : Int × Int → hf_M Int) (rec_6 : Int × Int → gM Int) (hrec_6 : ∀ s : Int × Int, gr (frec_6 s) (rec_6 s)) (x4 : Int) (x5 : Int) : gr (B_X12_canBe_6 69 x1 x2 x3 frec_6 x4 x5) (gB_X12_canBe_6 x1 x2 x3 rec_6 x4 x5) := by
  unfold B_X12_canBe_6 gB_X12_canBe_6
  refine gr_cb ?_ ?_
  · exact gr_ret _
  · refine gr_bd (gr_ob 69 (by decide) (by decide) rfl (r_X12_digitOf _ _ _)) (fun v19 => ?_)
    refine gr_ck (fun _ => ?_)
    refine gr_let (fun w33 => ?_)
    refine gr_let (fun x4_34 => ?_)
    refine gr_let (fun x5_36 => ?_)
    exact hrec_6 _
def g_X12_canBe_6 (x1 : Int) (x2 : Int) (x3 : Int) (x4 : Int) (x5 : Int) : gM Int :=
  gfx (fun rec s => gB_X12_canBe_6 x1 x2 x3 rec s.1 s.2) hf_N (x4, x5)
set_option maxRecDepth 20000 in
theorem r_X12_canBe_6 (x1 : Int) (x2 : Int) (x3 : Int) (x4 : Int) (x5 : Int) : gr (f_X12_canBe_6 69 x1 x2 x3 x4 x5) (g_X12_canBe_6 x1 x2 x3 x4 x5) := by
  unfold f_X12_canBe_6 g_X12_canBe_6
  refine gr_fx (fun frec rec hrec s => ?_) _ _
  exact rB_X12_canBe_6 _ _ _ _ _ hrec _ _
def g_X12_canBe (x1 : Int) (x2 : Int) (x3 : Int) : gM Int :=
  g_X12_canBe_6 x1 x2 x3 0 0
set_option maxRecDepth 20000 in
theorem r_X12_canBe (x1 : Int) (x2 : Int) (x3 : Int) : gr (f_X12_canBe 69 x1 x2 x3) (g_X12_canBe x1 x2 x3) := by
  unfold f_X12_canBe g_X12_canBe
  exact r_X12_canBe_6 _ _ _ _ _
def g_X12_moreLies_44 (rec_9 : Int × Int × Int → gM Int) (x1 : Int) (x2 : Int) (x3 : Int) (x4 : Int) (x5 : Int) (x6 : Int) (x7 : Int) : gM Int :=
  glet ((x5 * x4)) (fun x5_49 => glet ((x7 + 1)) (fun x7_51 => rec_9 (x5_49, x6, x7_51)))
set_option maxRecDepth 20000 in
theorem r_X12_moreLies_44 (frec_9 : Int × Int × Int → hf_M Int) (rec_9 : Int × Int × Int → gM Int) (hrec_9 : ∀ s : Int × Int × Int, gr (frec_9 s) (rec_9 s)) (x1 : Int) (x2 : Int) (x3 : Int) (x4 : Int) (x5 : Int) (x6 : Int) (x7 : Int) : gr (f_X12_moreLies_44 frec_9 69 x1 x2 x3 x4 x5 x6 x7) (g_X12_moreLies_44 rec_9 x1 x2 x3 x4 x5 x6 x7) := by
  unfold f_X12_moreLies_44 g_X12_moreLies_44
  refine gr_let (fun x5_49 => ?_)
  refine gr_let (fun x7_51 => ?_)
  exact hrec_9 _
def gB_X12_moreLies_9 (x1 : Int) (x2 : Int) (x3 : Int) (x4 : Int) (rec_9 : Int × Int × Int → gM Int) (x5 : Int) (x6 : Int) (x7 : Int) : gM Int :=
  gcb (x7) (x3) ((x3 < x7)) (gret (x6)) (gcb (x7) (x2) ((x7 < x2)) (g_X12_moreLies_44 rec_9 x1 x2 x3 x4 x5 x6 x7) (gbd (g_X12_digitOf x1 x7 x4) (fun v27 => gcb (v27) ((x4 - 1)) (((x4 - 1) ≤ v27)) (g_X12_moreLies_44 rec_9 x1 x2 x3 x4 x5 x6 x7) (glet ((x6 + x5)) (fun x6_42 => g_X12_moreLies_44 rec_9 x1 x2 x3 x4 x5 x6_42 x7)))))
set_option maxRecDepth 20000 in
theorem rB_X12_moreLies_9 (x1 : Int) (x2 : Int) (x3 : Int) (x4 : Int) (frec_9 : Int × Int × Int → hf_M Int) (rec_9 : Int × Int × Int → gM Int) (hrec_9 : ∀ s : Int × Int × Int, gr (frec_9 s) (rec_9 s)) (x5 : Int) (x6 : Int) (x7 : Int) : gr (B_X12_moreLies_9 69 x1 x2 x3 x4 frec_9 x5 x6 x7) (gB_X12_moreLies_9 x1 x2 x3 x4 rec_9 x5 x6 x7) := by
  unfold B_X12_moreLies_9 gB_X12_moreLies_9
  refine gr_cb ?_ ?_
  · exact gr_ret _
  · refine gr_cb ?_ ?_
    · exact r_X12_moreLies_44 frec_9 rec_9 hrec_9 _ _ _ _ _ _ _
    · refine gr_bd (gr_ob 69 (by decide) (by decide) rfl (r_X12_digitOf _ _ _)) (fun v27 => ?_)
      refine gr_cb ?_ ?_
      · exact r_X12_moreLies_44 frec_9 rec_9 hrec_9 _ _ _ _ _ _ _
      · refine gr_let (fun x6_42 => ?_)
        exact r_X12_moreLies_44 frec_9 rec_9 hrec_9 _ _ _ _ _ _ _
def g_X12_moreLies_9 (x1 : Int) (x2 : Int) (x3 : Int) (x4 : Int) (x5 : Int) (x6 : Int) (x7 : Int) : gM Int :=
  gfx (fun rec s => gB_X12_moreLies_9 x1 x2 x3 x4 rec s.1 s.2.1 s.2.2) hf_N (x5, x6, x7)
set_option maxRecDepth 20000 in
theorem r_X12_moreLies_9 (x1 : Int) (x2 : Int) (x3 : Int) (x4 : Int) (x5 : Int) (x6 : Int) (x7 : Int) : gr (f_X12_moreLies_9 69 x1 x2 x3 x4 x5 x6 x7) (g_X12_moreLies_9 x1 x2 x3 x4 x5 x6 x7) := by
  unfold f_X12_moreLies_9 g_X12_moreLies_9
  refine gr_fx (fun frec rec hrec s => ?_) _ _
  exact rB_X12_moreLies_9 _ _ _ _ _ _ hrec _ _ _
def g_X12_moreLies (x1 : Int) (x2 : Int) (x3 : Int) (x4 : Int) : gM Int :=
  g_X12_moreLies_9 x1 x2 x3 x4 1 x1 0
set_option maxRecDepth 20000 in
theorem r_X12_moreLies (x1 : Int) (x2 : Int) (x3 : Int) (x4 : Int) : gr (f_X12_moreLies 69 x1 x2 x3 x4) (g_X12_moreLies x1 x2 x3 x4) := by
  unfold f_X12_moreLies g_X12_moreLies
  exact r_X12_moreLies_9 _ _ _ _ _ _ _
def g_X12_sureFrom_135 (rec_21 : Int × Int → gM Int) (x1 : Int) (x2 : Int) (x3 : Int) (x4 : Int) (x5 : Int) (x8 : Int) : gM Int :=
  gck ((hf_inI (x8 + 1)) ∧ (hf_inI x4)) (glet ((if (x4 ≤ (x8 + 1)) then x4 else (x8 + 1))) (fun w153 => glet ((x5 + 1)) (fun x5_155 => rec_21 (w153, x5_155))))
set_option maxRecDepth 20000 in
theorem r_X12_sureFrom_135 (frec_21 : Int × Int → hf_M Int) (rec_21 : Int × Int → gM Int) (hrec_21 : ∀ s : Int × Int, gr (frec_21 s) (rec_21 s)) (x1 : Int) (x2 : Int) (x3 : Int) (x4 : Int) (x5 : Int) (x8 : Int) : gr (f_X12_sureFrom_135 frec_21 69 x1 x2 x3 x4 x5 x8) (g_X12_sureFrom_135 rec_21 x1 x2 x3 x4 x5 x8) := by
  unfold f_X12_sureFrom_135 g_X12_sureFrom_135
  refine gr_ck (fun _ => ?_)
  refine gr_let (fun w153 => ?_)
  refine gr_let (fun x5_155 => ?_)
  exact hrec_21 _
def g_X12_sureFrom_133 (rec_21 : Int × Int → gM Int) (x1 : Int) (x2 : Int) (x3 : Int) (x4 : Int) (x5 : Int) (s0 : Int) : gM Int :=
  g_X12_sureFrom_135 rec_21 x1 x2 x3 x4 x5 s0
set_option maxRecDepth 20000 in
theorem r_X12_sureFrom_133 (frec_21 : Int × Int → hf_M Int) (rec_21 : Int × Int → gM Int) (hrec_21 : ∀ s : Int × Int, gr (frec_21 s) (rec_21 s)) (x1 : Int) (x2 : Int) (x3 : Int) (x4 : Int) (x5 : Int) (s0 : Int) : gr (f_X12_sureFrom_133 frec_21 69 x1 x2 x3 x4 x5 s0) (g_X12_sureFrom_133 rec_21 x1 x2 x3 x4 x5 s0) := by
  unfold f_X12_sureFrom_133 g_X12_sureFrom_133
  exact r_X12_sureFrom_135 frec_21 rec_21 hrec_21 _ _ _ _ _ _
def g_X12_sureFrom_86 (rec_21 : Int × Int → gM Int) (x1 : Int) (x2 : Int) (x3 : Int) (x4 : Int) (x5 : Int) (x7 : Int) (x8 : Int) : gM Int :=
  gbd (g_X12_canBe x7 x2 x3) (fun v91 => gcz (v91) ((v91 ≤ 0)) (g_X12_sureFrom_135 rec_21 x1 x2 x3 x4 x5 x8) (gcb (x7) (x1) ((¬ (x7 = x1))) (gal 95 65536 (x7) (fun v115 => gcb (v115) (x8) ((v115 ≤ x8)) (g_X12_sureFrom_133 rec_21 x1 x2 x3 x4 x5 x8) (gal 95 65536 (x7) (fun v127 => g_X12_sureFrom_133 rec_21 x1 x2 x3 x4 x5 v127)))) (g_X12_sureFrom_133 rec_21 x1 x2 x3 x4 x5 1000000)))
set_option maxRecDepth 20000 in
theorem r_X12_sureFrom_86 (frec_21 : Int × Int → hf_M Int) (rec_21 : Int × Int → gM Int) (hrec_21 : ∀ s : Int × Int, gr (frec_21 s) (rec_21 s)) (x1 : Int) (x2 : Int) (x3 : Int) (x4 : Int) (x5 : Int) (x7 : Int) (x8 : Int) : gr (f_X12_sureFrom_86 frec_21 69 x1 x2 x3 x4 x5 x7 x8) (g_X12_sureFrom_86 rec_21 x1 x2 x3 x4 x5 x7 x8) := by
  unfold f_X12_sureFrom_86 g_X12_sureFrom_86
  refine gr_bd (gr_ob 69 (by decide) (by decide) rfl (r_X12_canBe _ _ _)) (fun v91 => ?_)
  refine gr_cz ?_ ?_
  · exact r_X12_sureFrom_135 frec_21 rec_21 hrec_21 _ _ _ _ _ _
  · refine gr_cb ?_ ?_
    · refine gr_gfp 69 95 (by decide) (by decide) rfl rfl (by decide) ?_
      refine gr_al 95 65536 (by decide) (by decide) rfl (by decide) rfl (fun v115 => ?_)
      refine gr_cb ?_ ?_
      · exact r_X12_sureFrom_133 frec_21 rec_21 hrec_21 _ _ _ _ _ _
      · refine gr_gfp 69 95 (by decide) (by decide) rfl rfl (by decide) ?_
        refine gr_al 95 65536 (by decide) (by decide) rfl (by decide) rfl (fun v127 => ?_)
        exact r_X12_sureFrom_133 frec_21 rec_21 hrec_21 _ _ _ _ _ _
    · exact r_X12_sureFrom_133 frec_21 rec_21 hrec_21 _ _ _ _ _ _
def g_X12_sureFrom_84 (rec_21 : Int × Int → gM Int) (x1 : Int) (x2 : Int) (x3 : Int) (x4 : Int) (x5 : Int) (x7 : Int) (s0 : Int) : gM Int :=
  g_X12_sureFrom_86 rec_21 x1 x2 x3 x4 x5 x7 s0
set_option maxRecDepth 20000 in
theorem r_X12_sureFrom_84 (frec_21 : Int × Int → hf_M Int) (rec_21 : Int × Int → gM Int) (hrec_21 : ∀ s : Int × Int, gr (frec_21 s) (rec_21 s)) (x1 : Int) (x2 : Int) (x3 : Int) (x4 : Int) (x5 : Int) (x7 : Int) (s0 : Int) : gr (f_X12_sureFrom_84 frec_21 69 x1 x2 x3 x4 x5 x7 s0) (g_X12_sureFrom_84 rec_21 x1 x2 x3 x4 x5 x7 s0) := by
  unfold f_X12_sureFrom_84 g_X12_sureFrom_84
  exact r_X12_sureFrom_86 frec_21 rec_21 hrec_21 _ _ _ _ _ _ _
def gB_X12_sureFrom_21 (x1 : Int) (x2 : Int) (x3 : Int) (rec_21 : Int × Int → gM Int) (x4 : Int) (x5 : Int) : gM Int :=
  gcb (x5) (x2) ((x2 < x5)) (gret (x4)) (gbd (g_X12_moreLies x1 0 (x5 - 1) x3) (fun v35 => gbd (g_X12_moreLies x1 x5 x2 x3) (fun v46 => gbd (g_X12_canBe v35 x2 x3) (fun v59 => gcz (v59) ((v59 ≤ 0)) (g_X12_sureFrom_86 rec_21 x1 x2 x3 x4 x5 v46 0) (gcb (v35) (x1) ((¬ (v35 = x1))) (gal 95 65536 (v35) (fun v83 => g_X12_sureFrom_84 rec_21 x1 x2 x3 x4 x5 v46 v83)) (g_X12_sureFrom_84 rec_21 x1 x2 x3 x4 x5 v46 1000000))))))
set_option maxRecDepth 20000 in
theorem rB_X12_sureFrom_21 (x1 : Int) (x2 : Int) (x3 : Int) (frec_21 : Int × Int → hf_M Int) (rec_21 : Int × Int → gM Int) (hrec_21 : ∀ s : Int × Int, gr (frec_21 s) (rec_21 s)) (x4 : Int) (x5 : Int) : gr (B_X12_sureFrom_21 69 x1 x2 x3 frec_21 x4 x5) (gB_X12_sureFrom_21 x1 x2 x3 rec_21 x4 x5) := by
  unfold B_X12_sureFrom_21 gB_X12_sureFrom_21
  refine gr_cb ?_ ?_
  · exact gr_ret _
  · refine gr_bd (gr_ob 69 (by decide) (by decide) rfl (r_X12_moreLies _ _ _ _)) (fun v35 => ?_)
    refine gr_bd (gr_ob 69 (by decide) (by decide) rfl (r_X12_moreLies _ _ _ _)) (fun v46 => ?_)
    refine gr_bd (gr_ob 69 (by decide) (by decide) rfl (r_X12_canBe _ _ _)) (fun v59 => ?_)
    refine gr_cz ?_ ?_
    · exact r_X12_sureFrom_86 frec_21 rec_21 hrec_21 _ _ _ _ _ _ _
    · refine gr_cb ?_ ?_
      · refine gr_gfp 69 95 (by decide) (by decide) rfl rfl (by decide) ?_
        refine gr_al 95 65536 (by decide) (by decide) rfl (by decide) rfl (fun v83 => ?_)
        exact r_X12_sureFrom_84 frec_21 rec_21 hrec_21 _ _ _ _ _ _ _
      · exact r_X12_sureFrom_84 frec_21 rec_21 hrec_21 _ _ _ _ _ _ _
def g_X12_sureFrom_21 (x1 : Int) (x2 : Int) (x3 : Int) (x4 : Int) (x5 : Int) : gM Int :=
  gfx (fun rec s => gB_X12_sureFrom_21 x1 x2 x3 rec s.1 s.2) hf_N (x4, x5)
set_option maxRecDepth 20000 in
theorem r_X12_sureFrom_21 (x1 : Int) (x2 : Int) (x3 : Int) (x4 : Int) (x5 : Int) : gr (f_X12_sureFrom_21 69 x1 x2 x3 x4 x5) (g_X12_sureFrom_21 x1 x2 x3 x4 x5) := by
  unfold f_X12_sureFrom_21 g_X12_sureFrom_21
  refine gr_fx (fun frec rec hrec s => ?_) _ _
  exact rB_X12_sureFrom_21 _ _ _ _ _ hrec _ _
def g_X12_sureFrom (x1 : Int) (x2 : Int) (x3 : Int) : gM Int :=
  gbd (g_X12_canBe x1 x2 x3) (fun v4 => gcb (v4) (2) ((2 ≤ v4)) (g_X12_sureFrom_21 x1 x2 x3 1000000 1) (gret (0)))
set_option maxRecDepth 20000 in
theorem r_X12_sureFrom (x1 : Int) (x2 : Int) (x3 : Int) : gr (f_X12_sureFrom 69 x1 x2 x3) (g_X12_sureFrom x1 x2 x3) := by
  unfold f_X12_sureFrom g_X12_sureFrom
  refine gr_bd (gr_ob 69 (by decide) (by decide) rfl (r_X12_canBe _ _ _)) (fun v4 => ?_)
  refine gr_cb ?_ ?_
  · exact r_X12_sureFrom_21 _ _ _ _ _
  · exact gr_ret _
def gB_X12_lies_60 (x1 : Int) (x3 : Int) (rec_60 : Int → gM Int) (x5 : Int) : gM Int :=
  gcz (x5) ((x5 < 0)) (gal 95 65536 (0) (fun v91 => gret (v91))) (gbd (g_X12_sureFrom x5 x1 x3) (fun v76 => gas 95 65536 (x5) (v76) (glet ((x5 + (-1))) (fun x5_80 => rec_60 x5_80))))
set_option maxRecDepth 20000 in
theorem rB_X12_lies_60 (x1 : Int) (x3 : Int) (frec_60 : Int → hf_M Int) (rec_60 : Int → gM Int) (hrec_60 : ∀ s : Int, gr (frec_60 s) (rec_60 s)) (x5 : Int) : gr (B_X12_lies_60 69 x1 x3 frec_60 x5) (gB_X12_lies_60 x1 x3 rec_60 x5) := by
  unfold B_X12_lies_60 gB_X12_lies_60
  refine gr_cz ?_ ?_
  · refine gr_gfp 69 95 (by decide) (by decide) rfl rfl (by decide) ?_
    refine gr_al 95 65536 (by decide) (by decide) rfl (by decide) rfl (fun v91 => ?_)
    exact gr_ret _
  · refine gr_gfp 69 95 (by decide) (by decide) rfl rfl (by decide) ?_
    refine gr_bd (gr_ob 69 (by decide) (by decide) rfl (r_X12_sureFrom _ _ _)) (fun v76 => ?_)
    refine gr_as 95 65536 (by decide) (by decide) rfl (by decide) rfl rfl ?_
    refine gr_let (fun x5_80 => ?_)
    exact hrec_60 _
def g_X12_lies_60 (x1 : Int) (x3 : Int) (x5 : Int) : gM Int :=
  gfx (fun rec s => gB_X12_lies_60 x1 x3 rec s) hf_N x5
set_option maxRecDepth 20000 in
theorem r_X12_lies_60 (x1 : Int) (x3 : Int) (x5 : Int) : gr (f_X12_lies_60 69 x1 x3 x5) (g_X12_lies_60 x1 x3 x5) := by
  unfold f_X12_lies_60 g_X12_lies_60
  refine gr_fx (fun frec rec hrec s => ?_) _ _
  exact rB_X12_lies_60 _ _ _ _ hrec _
def gB_X12_lies_36 (x1 : Int) (x3 : Int) (rec_36 : Int × Int → gM Int) (x4 : Int) (x5 : Int) : gM Int :=
  gcb (x5) (x1) ((x1 < x5)) (glet ((x4 - 1)) (fun x5_58 => g_X12_lies_60 x1 x3 x5_58)) (glet ((x4 * x3)) (fun x4_46 => glet ((x5 + 1)) (fun x5_48 => rec_36 (x4_46, x5_48))))
set_option maxRecDepth 20000 in
theorem rB_X12_lies_36 (x1 : Int) (x3 : Int) (frec_36 : Int × Int → hf_M Int) (rec_36 : Int × Int → gM Int) (hrec_36 : ∀ s : Int × Int, gr (frec_36 s) (rec_36 s)) (x4 : Int) (x5 : Int) : gr (B_X12_lies_36 69 x1 x3 frec_36 x4 x5) (gB_X12_lies_36 x1 x3 rec_36 x4 x5) := by
  unfold B_X12_lies_36 gB_X12_lies_36
  refine gr_cb ?_ ?_
  · refine gr_let (fun x5_58 => ?_)
    exact r_X12_lies_60 _ _ _
  · refine gr_let (fun x4_46 => ?_)
    refine gr_let (fun x5_48 => ?_)
    exact hrec_36 _
def g_X12_lies_36 (x1 : Int) (x3 : Int) (x4 : Int) (x5 : Int) : gM Int :=
  gfx (fun rec s => gB_X12_lies_36 x1 x3 rec s.1 s.2) hf_N (x4, x5)
set_option maxRecDepth 20000 in
theorem r_X12_lies_36 (x1 : Int) (x3 : Int) (x4 : Int) (x5 : Int) : gr (f_X12_lies_36 69 x1 x3 x4 x5) (g_X12_lies_36 x1 x3 x4 x5) := by
  unfold f_X12_lies_36 g_X12_lies_36
  refine gr_fx (fun frec rec hrec s => ?_) _ _
  exact rB_X12_lies_36 _ _ _ _ hrec _ _
def g_X12_lies (x1 : Int) (x2 : Int) : gM Int :=
  gput (-6902) (0) (gbd (g_X12_isIn x1 1 7) (fun v9 => gcz (v9) ((v9 = 0)) (gret ((-1))) (gbd (g_X12_isIn x2 0 2) (fun v18 => gcz (v18) ((¬ (v18 = 0))) (glet ((x2 + 2)) (fun x3_29 => g_X12_lies_36 x1 x3_29 1 0)) (gret ((-1)))))))
set_option maxRecDepth 20000 in
theorem r_X12_lies (x1 : Int) (x2 : Int) : gr (f_X12_lies 69 x1 x2) (g_X12_lies x1 x2) := by
  unfold f_X12_lies g_X12_lies
  refine gr_pf 69 (by decide) (by decide) rfl (by decide) (by decide) rfl rfl ?_
  refine gr_bd (r_X12_isIn _ _ _) (fun v9 => ?_)
  refine gr_cz ?_ ?_
  · exact gr_ret _
  · refine gr_bd (r_X12_isIn _ _ _) (fun v18 => ?_)
    refine gr_cz ?_ ?_
    · refine gr_let (fun x3_29 => ?_)
      exact r_X12_lies_36 _ _ _ _
    · exact gr_ret _
def g_X3_settle_65 (rec_30 : Int → gM Int) (x1 : Int) : gM Int :=
  glet ((x1 + (-1))) (fun x1_65 => rec_30 x1_65)
set_option maxRecDepth 20000 in
theorem r_X3_settle_65 (frec_30 : Int → hf_M Int) (rec_30 : Int → gM Int) (hrec_30 : ∀ s : Int, gr (frec_30 s) (rec_30 s)) (x1 : Int) : gr (f_X3_settle_65 frec_30 53 x1) (g_X3_settle_65 rec_30 x1) := by
  unfold f_X3_settle_65 g_X3_settle_65
  refine gr_let (fun x1_65 => ?_)
  exact hrec_30 _
def gB_X3_settle_30 (rec_30 : Int → gM Int) (x1 : Int) : gM Int :=
  gcz (x1) ((x1 < 0)) (gret (0)) (gal 59 40 (x1) (fun v39 => gcz (v39) ((v39 = 0)) (g_X3_settle_65 rec_30 x1) (gal 58 40 (x1) (fun v48 => gcb (v48) ((-1)) ((v48 = (-1))) (g_X3_settle_65 rec_30 x1) (gal 58 40 (x1) (fun v62 => gas 59 40 (v62) (0) (g_X3_settle_65 rec_30 x1)))))))
set_option maxRecDepth 20000 in
theorem rB_X3_settle_30 (frec_30 : Int → hf_M Int) (rec_30 : Int → gM Int) (hrec_30 : ∀ s : Int, gr (frec_30 s) (rec_30 s)) (x1 : Int) : gr (B_X3_settle_30 53 frec_30 x1) (gB_X3_settle_30 rec_30 x1) := by
  unfold B_X3_settle_30 gB_X3_settle_30
  refine gr_cz ?_ ?_
  · exact gr_ret _
  · refine gr_gfp 53 59 (by decide) (by decide) rfl rfl (by decide) ?_
    refine gr_al 59 40 (by decide) (by decide) rfl (by decide) rfl (fun v39 => ?_)
    refine gr_cz ?_ ?_
    · exact r_X3_settle_65 frec_30 rec_30 hrec_30 _
    · refine gr_gfp 53 58 (by decide) (by decide) rfl rfl (by decide) ?_
      refine gr_al 58 40 (by decide) (by decide) rfl (by decide) rfl (fun v48 => ?_)
      refine gr_cb ?_ ?_
      · exact r_X3_settle_65 frec_30 rec_30 hrec_30 _
      · refine gr_gfp 53 59 (by decide) (by decide) rfl rfl (by decide) ?_
        refine gr_gfp 53 58 (by decide) (by decide) rfl rfl (by decide) ?_
        refine gr_al 58 40 (by decide) (by decide) rfl (by decide) rfl (fun v62 => ?_)
        refine gr_as 59 40 (by decide) (by decide) rfl (by decide) rfl rfl ?_
        exact r_X3_settle_65 frec_30 rec_30 hrec_30 _
def g_X3_settle_30 (x1 : Int) : gM Int :=
  gfx (fun rec s => gB_X3_settle_30 rec s) hf_N x1
set_option maxRecDepth 20000 in
theorem r_X3_settle_30 (x1 : Int) : gr (f_X3_settle_30 53 x1) (g_X3_settle_30 x1) := by
  unfold f_X3_settle_30 g_X3_settle_30
  refine gr_fx (fun frec rec hrec s => ?_) _ _
  exact rB_X3_settle_30 _ _ hrec _
def gB_X3_settle_2 (rec_2 : Int → gM Int) (x1 : Int) : gM Int :=
  gget (-5300) (fun v4 => gcb (x1) (v4) ((v4 ≤ x1)) (gget (-5300) (fun v24 => glet ((v24 - 1)) (fun x1_29 => g_X3_settle_30 x1_29))) (gas 59 40 (x1) (1) (glet ((x1 + 1)) (fun x1_17 => rec_2 x1_17))))
set_option maxRecDepth 20000 in
theorem rB_X3_settle_2 (frec_2 : Int → hf_M Int) (rec_2 : Int → gM Int) (hrec_2 : ∀ s : Int, gr (frec_2 s) (rec_2 s)) (x1 : Int) : gr (B_X3_settle_2 53 frec_2 x1) (gB_X3_settle_2 rec_2 x1) := by
  unfold B_X3_settle_2 gB_X3_settle_2
  refine gr_gf 53 (by decide) (by decide) rfl (by decide) rfl (fun v4 => ?_)
  refine gr_cb ?_ ?_
  · refine gr_gf 53 (by decide) (by decide) rfl (by decide) rfl (fun v24 => ?_)
    refine gr_let (fun x1_29 => ?_)
    exact r_X3_settle_30 _
  · refine gr_gfp 53 59 (by decide) (by decide) rfl rfl (by decide) ?_
    refine gr_as 59 40 (by decide) (by decide) rfl (by decide) rfl rfl ?_
    refine gr_let (fun x1_17 => ?_)
    exact hrec_2 _
def g_X3_settle_2 (x1 : Int) : gM Int :=
  gfx (fun rec s => gB_X3_settle_2 rec s) hf_N x1
set_option maxRecDepth 20000 in
theorem r_X3_settle_2 (x1 : Int) : gr (f_X3_settle_2 53 x1) (g_X3_settle_2 x1) := by
  unfold f_X3_settle_2 g_X3_settle_2
  refine gr_fx (fun frec rec hrec s => ?_) _ _
  exact rB_X3_settle_2 _ _ hrec _
def g_X3_settle  : gM Int :=
  g_X3_settle_2 0
set_option maxRecDepth 20000 in
theorem r_X3_settle  : gr (f_X3_settle 53) (g_X3_settle ) := by
  unfold f_X3_settle g_X3_settle
  exact r_X3_settle_2 _
def g_X3_close (x1 : Int) : gM Int :=
  gget (-5300) (fun v5 => gas 58 40 (v5) (x1) (gget (-5300) (fun v12 => gput (-5300) ((v12 + 1)) (gbd (g_X3_settle) (fun _ => gget (-5300) (fun v25 => gret ((v25 - 1))))))))
set_option maxRecDepth 20000 in
theorem r_X3_close (x1 : Int) : gr (f_X3_close 53 x1) (g_X3_close x1) := by
  unfold f_X3_close g_X3_close
  refine gr_gfp 53 58 (by decide) (by decide) rfl rfl (by decide) ?_
  refine gr_gf 53 (by decide) (by decide) rfl (by decide) rfl (fun v5 => ?_)
  refine gr_as 58 40 (by decide) (by decide) rfl (by decide) rfl rfl ?_
  refine gr_gf 53 (by decide) (by decide) rfl (by decide) rfl (fun v12 => ?_)
  refine gr_pf 53 (by decide) (by decide) rfl (by decide) (by decide) rfl rfl ?_
  refine gr_bd (gr_ob 53 (by decide) (by decide) rfl (r_X3_settle)) (fun _ => ?_)
  refine gr_gf 53 (by decide) (by decide) rfl (by decide) rfl (fun v25 => ?_)
  exact gr_ret _
def g_X3_write (x1 : Int) (x2 : Int) (x3 : Int) (x4 : Int) : gM Int :=
  gget (-5300) (fun v1 => gcb (v1) (40) ((v1 < 40)) (gget (-5300) (fun v16 => gas 54 40 (v16) (x1) (gget (-5300) (fun v26 => gas 55 40 (v26) (x2) (gget (-5300) (fun v36 => gas 56 40 (v36) (x3) (gget (-5300) (fun v46 => gck ((x4 = 0) ∨ (x4 = 1)) (gas 57 40 (v46) (x4) (gbd (g_X3_close (-1)) (fun v54 => gret (v54)))))))))))) (gret ((-1))))
set_option maxRecDepth 20000 in
theorem r_X3_write (x1 : Int) (x2 : Int) (x3 : Int) (x4 : Int) : gr (f_X3_write 53 x1 x2 x3 x4) (g_X3_write x1 x2 x3 x4) := by
  unfold f_X3_write g_X3_write
  refine gr_gf 53 (by decide) (by decide) rfl (by decide) rfl (fun v1 => ?_)
  refine gr_cb ?_ ?_
  · refine gr_gfp 53 54 (by decide) (by decide) rfl rfl (by decide) ?_
    refine gr_gf 53 (by decide) (by decide) rfl (by decide) rfl (fun v16 => ?_)
    refine gr_as 54 40 (by decide) (by decide) rfl (by decide) rfl rfl ?_
    refine gr_gfp 53 55 (by decide) (by decide) rfl rfl (by decide) ?_
    refine gr_gf 53 (by decide) (by decide) rfl (by decide) rfl (fun v26 => ?_)
    refine gr_as 55 40 (by decide) (by decide) rfl (by decide) rfl rfl ?_
    refine gr_gfp 53 56 (by decide) (by decide) rfl rfl (by decide) ?_
    refine gr_gf 53 (by decide) (by decide) rfl (by decide) rfl (fun v36 => ?_)
    refine gr_as 56 40 (by decide) (by decide) rfl (by decide) rfl rfl ?_
    refine gr_gfp 53 57 (by decide) (by decide) rfl rfl (by decide) ?_
    refine gr_gf 53 (by decide) (by decide) rfl (by decide) rfl (fun v46 => ?_)
    refine gr_ck (fun _ => ?_)
    refine gr_as 57 40 (by decide) (by decide) rfl (by decide) rfl rfl ?_
    refine gr_bd (gr_ob 53 (by decide) (by decide) rfl (r_X3_close _)) (fun v54 => ?_)
    exact gr_ret _
  · exact gr_ret _
def g_X11_note (x1 : Int) (x2 : Int) (x3 : Int) (x4 : Int) : gM Int :=
  gbd (g_X11_isWithin x1 5) (fun v2 => gcz (v2) ((v2 = 0)) (gret ((-1))) (gbd (g_X8_hasKind x2) (fun v13 => gcz (v13) ((v13 = 0)) (gret ((-1))) (gbd (g_X8_hasStep x3) (fun v24 => gcz (v24) ((¬ (v24 = 0))) (gbd (g_X3_write x1 x2 x3 x4) (fun v41 => gret (v41))) (gret ((-1))))))))
set_option maxRecDepth 20000 in
theorem r_X11_note (x1 : Int) (x2 : Int) (x3 : Int) (x4 : Int) : gr (f_X11_note 1 x1 x2 x3 x4) (g_X11_note x1 x2 x3 x4) := by
  unfold f_X11_note g_X11_note
  refine gr_bd (r_X11_isWithin _ _) (fun v2 => ?_)
  refine gr_cz ?_ ?_
  · exact gr_ret _
  · refine gr_gfp 1 2 (by decide) (by decide) rfl rfl (by decide) ?_
    refine gr_bd (gr_ob 2 (by decide) (by decide) rfl (r_X8_hasKind _)) (fun v13 => ?_)
    refine gr_cz ?_ ?_
    · exact gr_ret _
    · refine gr_gfp 1 2 (by decide) (by decide) rfl rfl (by decide) ?_
      refine gr_bd (gr_ob 2 (by decide) (by decide) rfl (r_X8_hasStep _)) (fun v24 => ?_)
      refine gr_cz ?_ ?_
      · refine gr_gfp 1 53 (by decide) (by decide) rfl rfl (by decide) ?_
        refine gr_bd (gr_ob 53 (by decide) (by decide) rfl (r_X3_write _ _ _ _)) (fun v41 => ?_)
        exact gr_ret _
      · exact gr_ret _
def g_X12_isStep (x1 : Int) : gM Int :=
  gcb (x1) (1) ((x1 < 1)) (gret (0)) (gget (-6903) (fun v7 => gcb (x1) (v7) ((v7 < x1)) (gret (0)) (gret (1))))
set_option maxRecDepth 20000 in
theorem r_X12_isStep (x1 : Int) : gr (f_X12_isStep 69 x1) (g_X12_isStep x1) := by
  unfold f_X12_isStep g_X12_isStep
  refine gr_cb ?_ ?_
  · exact gr_ret _
  · refine gr_gf 69 (by decide) (by decide) rfl (by decide) rfl (fun v7 => ?_)
    refine gr_cb ?_ ?_
    · exact gr_ret _
    · exact gr_ret _
def g_X12_note (x1 : Int) (x2 : Int) (x3 : Int) (x4 : Int) : gM Int :=
  gput (-6902) (0) (gget (-6957) (fun v6 => gcb (v6) (40) ((v6 = 40)) (gret ((-1))) (gbd (g_X12_isIn x1 0 5) (fun v17 => gcz (v17) ((v17 = 0)) (gret ((-1))) (gbd (g_X12_isKind x2) (fun v24 => gcz (v24) ((v24 = 0)) (gret ((-1))) (gbd (g_X12_isStep x3) (fun v32 => gcz (v32) ((¬ (v32 = 0))) (gget (-6957) (fun v45 => gas 96 40 (v45) (x1) (gget (-6957) (fun v55 => gas 97 40 (v55) (x2) (gget (-6957) (fun v65 => gas 98 40 (v65) (x3) (gget (-6957) (fun v75 => gck ((x4 = 0) ∨ (x4 = 1)) (gas 99 40 (v75) (x4) (gget (-6957) (fun v83 => gput (-6957) ((v83 + 1)) (gget (-6957) (fun v92 => gret ((v92 - 1))))))))))))))) (gret ((-1)))))))))))
set_option maxRecDepth 20000 in
theorem r_X12_note (x1 : Int) (x2 : Int) (x3 : Int) (x4 : Int) : gr (f_X12_note 69 x1 x2 x3 x4) (g_X12_note x1 x2 x3 x4) := by
  unfold f_X12_note g_X12_note
  refine gr_pf 69 (by decide) (by decide) rfl (by decide) (by decide) rfl rfl ?_
  refine gr_gf 69 (by decide) (by decide) rfl (by decide) rfl (fun v6 => ?_)
  refine gr_cb ?_ ?_
  · exact gr_ret _
  · refine gr_bd (r_X12_isIn _ _ _) (fun v17 => ?_)
    refine gr_cz ?_ ?_
    · exact gr_ret _
    · refine gr_bd (r_X12_isKind _) (fun v24 => ?_)
      refine gr_cz ?_ ?_
      · exact gr_ret _
      · refine gr_bd (gr_ob 69 (by decide) (by decide) rfl (r_X12_isStep _)) (fun v32 => ?_)
        refine gr_cz ?_ ?_
        · refine gr_gfp 69 96 (by decide) (by decide) rfl rfl (by decide) ?_
          refine gr_gf 69 (by decide) (by decide) rfl (by decide) rfl (fun v45 => ?_)
          refine gr_as 96 40 (by decide) (by decide) rfl (by decide) rfl rfl ?_
          refine gr_gfp 69 97 (by decide) (by decide) rfl rfl (by decide) ?_
          refine gr_gf 69 (by decide) (by decide) rfl (by decide) rfl (fun v55 => ?_)
          refine gr_as 97 40 (by decide) (by decide) rfl (by decide) rfl rfl ?_
          refine gr_gfp 69 98 (by decide) (by decide) rfl rfl (by decide) ?_
          refine gr_gf 69 (by decide) (by decide) rfl (by decide) rfl (fun v65 => ?_)
          refine gr_as 98 40 (by decide) (by decide) rfl (by decide) rfl rfl ?_
          refine gr_gfp 69 99 (by decide) (by decide) rfl rfl (by decide) ?_
          refine gr_gf 69 (by decide) (by decide) rfl (by decide) rfl (fun v75 => ?_)
          refine gr_ck (fun _ => ?_)
          refine gr_as 99 40 (by decide) (by decide) rfl (by decide) rfl rfl ?_
          refine gr_gf 69 (by decide) (by decide) rfl (by decide) rfl (fun v83 => ?_)
          refine gr_pf 69 (by decide) (by decide) rfl (by decide) (by decide) rfl rfl ?_
          refine gr_gf 69 (by decide) (by decide) rfl (by decide) rfl (fun v92 => ?_)
          exact gr_ret _
        · exact gr_ret _
def g_X3_writeStrike (x1 : Int) : gM Int :=
  gcz (x1) ((x1 < 0)) (gret ((-1))) (gget (-5300) (fun v6 => gcb (x1) (v6) ((v6 ≤ x1)) (gret ((-1))) (gget (-5300) (fun v13 => gcb (v13) (40) ((v13 < 40)) (gbd (g_X3_close x1) (fun v25 => gret (v25))) (gret ((-1)))))))
set_option maxRecDepth 20000 in
theorem r_X3_writeStrike (x1 : Int) : gr (f_X3_writeStrike 53 x1) (g_X3_writeStrike x1) := by
  unfold f_X3_writeStrike g_X3_writeStrike
  refine gr_cz ?_ ?_
  · exact gr_ret _
  · refine gr_gf 53 (by decide) (by decide) rfl (by decide) rfl (fun v6 => ?_)
    refine gr_cb ?_ ?_
    · exact gr_ret _
    · refine gr_gf 53 (by decide) (by decide) rfl (by decide) rfl (fun v13 => ?_)
      refine gr_cb ?_ ?_
      · refine gr_bd (gr_ob 53 (by decide) (by decide) rfl (r_X3_close _)) (fun v25 => ?_)
        exact gr_ret _
      · exact gr_ret _
def g_X11_strike (x1 : Int) : gM Int :=
  gbd (g_X3_writeStrike x1) (fun v5 => gret (v5))
set_option maxRecDepth 20000 in
theorem r_X11_strike (x1 : Int) : gr (f_X11_strike 1 x1) (g_X11_strike x1) := by
  unfold f_X11_strike g_X11_strike
  refine gr_gfp 1 53 (by decide) (by decide) rfl rfl (by decide) ?_
  refine gr_bd (gr_ob 53 (by decide) (by decide) rfl (r_X3_writeStrike _)) (fun v5 => ?_)
  exact gr_ret _
def g_X12_strike (x1 : Int) : gM Int :=
  gput (-6902) (0) (gget (-6957) (fun v6 => gcb (v6) (40) ((v6 = 40)) (gret ((-1))) (gcz (x1) ((x1 < 0)) (gret ((-1))) (gget (-6957) (fun v20 => gcb (x1) (v20) ((x1 < v20)) (gget (-6957) (fun v33 => gas 96 40 (v33) ((-1)) (gget (-6957) (fun v43 => gas 98 40 (v43) (x1) (gget (-6957) (fun v50 => gput (-6957) ((v50 + 1)) (gget (-6957) (fun v59 => gret ((v59 - 1)))))))))) (gret ((-1))))))))
set_option maxRecDepth 20000 in
theorem r_X12_strike (x1 : Int) : gr (f_X12_strike 69 x1) (g_X12_strike x1) := by
  unfold f_X12_strike g_X12_strike
  refine gr_pf 69 (by decide) (by decide) rfl (by decide) (by decide) rfl rfl ?_
  refine gr_gf 69 (by decide) (by decide) rfl (by decide) rfl (fun v6 => ?_)
  refine gr_cb ?_ ?_
  · exact gr_ret _
  · refine gr_cz ?_ ?_
    · exact gr_ret _
    · refine gr_gf 69 (by decide) (by decide) rfl (by decide) rfl (fun v20 => ?_)
      refine gr_cb ?_ ?_
      · refine gr_gfp 69 96 (by decide) (by decide) rfl rfl (by decide) ?_
        refine gr_gf 69 (by decide) (by decide) rfl (by decide) rfl (fun v33 => ?_)
        refine gr_as 96 40 (by decide) (by decide) rfl (by decide) rfl rfl ?_
        refine gr_gfp 69 98 (by decide) (by decide) rfl rfl (by decide) ?_
        refine gr_gf 69 (by decide) (by decide) rfl (by decide) rfl (fun v43 => ?_)
        refine gr_as 98 40 (by decide) (by decide) rfl (by decide) rfl rfl ?_
        refine gr_gf 69 (by decide) (by decide) rfl (by decide) rfl (fun v50 => ?_)
        refine gr_pf 69 (by decide) (by decide) rfl (by decide) (by decide) rfl rfl ?_
        refine gr_gf 69 (by decide) (by decide) rfl (by decide) rfl (fun v59 => ?_)
        exact gr_ret _
      · exact gr_ret _
def g_X3_isWrong (x1 : Int) (x3 : Int) : gM Int :=
  gal 59 40 (x1) (fun v5 => gcz (v5) ((v5 = 0)) (gret (0)) (gal 58 40 (x1) (fun v14 => gcb (v14) ((-1)) ((¬ (v14 = (-1)))) (gret (0)) (gal 55 40 (x1) (fun v25 => gal 56 40 (x1) (fun v31 => gbd (g_X8_breaks v25 v31 x3) (fun v33 => gal 57 40 (x1) (fun v41 => gcb (v33) (v41) ((v33 = v41)) (gret (0)) (gret (1))))))))))
set_option maxRecDepth 20000 in
theorem r_X3_isWrong (x1 : Int) (x3 : Int) : gr (f_X3_isWrong 53 x1 2 x3) (g_X3_isWrong x1 x3) := by
  unfold f_X3_isWrong g_X3_isWrong
  refine gr_gfp 53 59 (by decide) (by decide) rfl rfl (by decide) ?_
  refine gr_al 59 40 (by decide) (by decide) rfl (by decide) rfl (fun v5 => ?_)
  refine gr_cz ?_ ?_
  · exact gr_ret _
  · refine gr_gfp 53 58 (by decide) (by decide) rfl rfl (by decide) ?_
    refine gr_al 58 40 (by decide) (by decide) rfl (by decide) rfl (fun v14 => ?_)
    refine gr_cb ?_ ?_
    · exact gr_ret _
    · refine gr_gfp 53 55 (by decide) (by decide) rfl rfl (by decide) ?_
      refine gr_al 55 40 (by decide) (by decide) rfl (by decide) rfl (fun v25 => ?_)
      refine gr_gfp 53 56 (by decide) (by decide) rfl rfl (by decide) ?_
      refine gr_al 56 40 (by decide) (by decide) rfl (by decide) rfl (fun v31 => ?_)
      refine gr_bd (gr_ob 2 (by decide) (by decide) rfl (r_X8_breaks _ _ _)) (fun v33 => ?_)
      refine gr_gfp 53 57 (by decide) (by decide) rfl rfl (by decide) ?_
      refine gr_al 57 40 (by decide) (by decide) rfl (by decide) rfl (fun v41 => ?_)
      refine gr_cb ?_ ?_
      · exact gr_ret _
      · exact gr_ret _
def g_X3_wrongAt_28 (rec_5 : Int × Int → gM Int) (x2 : Int) (x3 : Int) (x4 : Int) : gM Int :=
  glet ((x4 + 1)) (fun x4_28 => rec_5 (x3, x4_28))
set_option maxRecDepth 20000 in
theorem r_X3_wrongAt_28 (frec_5 : Int × Int → hf_M Int) (rec_5 : Int × Int → gM Int) (hrec_5 : ∀ s : Int × Int, gr (frec_5 s) (rec_5 s)) (x2 : Int) (x3 : Int) (x4 : Int) : gr (f_X3_wrongAt_28 frec_5 53 2 x2 x3 x4) (g_X3_wrongAt_28 rec_5 x2 x3 x4) := by
  unfold f_X3_wrongAt_28 g_X3_wrongAt_28
  refine gr_let (fun x4_28 => ?_)
  exact hrec_5 _
def gB_X3_wrongAt_5 (x2 : Int) (rec_5 : Int × Int → gM Int) (x3 : Int) (x4 : Int) : gM Int :=
  gget (-5300) (fun v8 => gcb (x4) (v8) ((v8 ≤ x4)) (gret (x3)) (gbd (g_X3_isWrong x4 x2) (fun v19 => gcz (v19) ((v19 = 0)) (g_X3_wrongAt_28 rec_5 x2 x3 x4) (glet ((x3 + 1)) (fun x3_25 => g_X3_wrongAt_28 rec_5 x2 x3_25 x4)))))
set_option maxRecDepth 20000 in
theorem rB_X3_wrongAt_5 (x2 : Int) (frec_5 : Int × Int → hf_M Int) (rec_5 : Int × Int → gM Int) (hrec_5 : ∀ s : Int × Int, gr (frec_5 s) (rec_5 s)) (x3 : Int) (x4 : Int) : gr (B_X3_wrongAt_5 53 2 x2 frec_5 x3 x4) (gB_X3_wrongAt_5 x2 rec_5 x3 x4) := by
  unfold B_X3_wrongAt_5 gB_X3_wrongAt_5
  refine gr_gf 53 (by decide) (by decide) rfl (by decide) rfl (fun v8 => ?_)
  refine gr_cb ?_ ?_
  · exact gr_ret _
  · refine gr_bd (gr_ob 53 (by decide) (by decide) rfl (r_X3_isWrong _ _)) (fun v19 => ?_)
    refine gr_cz ?_ ?_
    · exact r_X3_wrongAt_28 frec_5 rec_5 hrec_5 _ _ _
    · refine gr_let (fun x3_25 => ?_)
      exact r_X3_wrongAt_28 frec_5 rec_5 hrec_5 _ _ _
def g_X3_wrongAt_5 (x2 : Int) (x3 : Int) (x4 : Int) : gM Int :=
  gfx (fun rec s => gB_X3_wrongAt_5 x2 rec s.1 s.2) hf_N (x3, x4)
set_option maxRecDepth 20000 in
theorem r_X3_wrongAt_5 (x2 : Int) (x3 : Int) (x4 : Int) : gr (f_X3_wrongAt_5 53 2 x2 x3 x4) (g_X3_wrongAt_5 x2 x3 x4) := by
  unfold f_X3_wrongAt_5 g_X3_wrongAt_5
  refine gr_fx (fun frec rec hrec s => ?_) _ _
  exact rB_X3_wrongAt_5 _ _ _ hrec _ _
def g_X3_wrongAt (x2 : Int) : gM Int :=
  g_X3_wrongAt_5 x2 0 0
set_option maxRecDepth 20000 in
theorem r_X3_wrongAt (x2 : Int) : gr (f_X3_wrongAt 53 2 x2) (g_X3_wrongAt x2) := by
  unfold f_X3_wrongAt g_X3_wrongAt
  exact r_X3_wrongAt_5 _ _ _
def g_X11_fitting_40 (rec_4 : Int × Int → gM Int) (x1 : Int) (x2 : Int) (x3 : Int) : gM Int :=
  glet ((x3 + 1)) (fun x3_40 => rec_4 (x2, x3_40))
set_option maxRecDepth 20000 in
theorem r_X11_fitting_40 (frec_4 : Int × Int → hf_M Int) (rec_4 : Int × Int → gM Int) (hrec_4 : ∀ s : Int × Int, gr (frec_4 s) (rec_4 s)) (x1 : Int) (x2 : Int) (x3 : Int) : gr (f_X11_fitting_40 frec_4 1 x1 x2 x3) (g_X11_fitting_40 rec_4 x1 x2 x3) := by
  unfold f_X11_fitting_40 g_X11_fitting_40
  refine gr_let (fun x3_40 => ?_)
  exact hrec_4 _
def gB_X11_fitting_4 (x1 : Int) (rec_4 : Int × Int → gM Int) (x2 : Int) (x3 : Int) : gM Int :=
  gget (-200) (fun v9 => gcb (x3) (v9) ((v9 < x3)) (gck ((hf_inI x1) ∧ (hf_inI (-1))) (glet ((if (¬ (x1 = (-1))) then (-1) else x2)) (fun w56 => gret (w56)))) (gbd (g_X3_wrongAt x3) (fun v24 => gcz (v24) ((¬ (v24 = 0))) (g_X11_fitting_40 rec_4 x1 x2 x3) (gcb (x2) (x1) ((¬ (x2 = x1))) (glet ((x2 + 1)) (fun x2_37 => g_X11_fitting_40 rec_4 x1 x2_37 x3)) (gret (x3))))))
set_option maxRecDepth 20000 in
theorem rB_X11_fitting_4 (x1 : Int) (frec_4 : Int × Int → hf_M Int) (rec_4 : Int × Int → gM Int) (hrec_4 : ∀ s : Int × Int, gr (frec_4 s) (rec_4 s)) (x2 : Int) (x3 : Int) : gr (B_X11_fitting_4 1 x1 frec_4 x2 x3) (gB_X11_fitting_4 x1 rec_4 x2 x3) := by
  unfold B_X11_fitting_4 gB_X11_fitting_4
  refine gr_gfp 1 2 (by decide) (by decide) rfl rfl (by decide) ?_
  refine gr_gf 2 (by decide) (by decide) rfl (by decide) rfl (fun v9 => ?_)
  refine gr_cb ?_ ?_
  · refine gr_ck (fun _ => ?_)
    refine gr_let (fun w56 => ?_)
    exact gr_ret _
  · refine gr_gfp 1 53 (by decide) (by decide) rfl rfl (by decide) ?_
    refine gr_gfp 1 2 (by decide) (by decide) rfl rfl (by decide) ?_
    refine gr_bd (gr_ob 53 (by decide) (by decide) rfl (r_X3_wrongAt _)) (fun v24 => ?_)
    refine gr_cz ?_ ?_
    · exact r_X11_fitting_40 frec_4 rec_4 hrec_4 _ _ _
    · refine gr_cb ?_ ?_
      · refine gr_let (fun x2_37 => ?_)
        exact r_X11_fitting_40 frec_4 rec_4 hrec_4 _ _ _
      · exact gr_ret _
def g_X11_fitting_4 (x1 : Int) (x2 : Int) (x3 : Int) : gM Int :=
  gfx (fun rec s => gB_X11_fitting_4 x1 rec s.1 s.2) hf_N (x2, x3)
set_option maxRecDepth 20000 in
theorem r_X11_fitting_4 (x1 : Int) (x2 : Int) (x3 : Int) : gr (f_X11_fitting_4 1 x1 x2 x3) (g_X11_fitting_4 x1 x2 x3) := by
  unfold f_X11_fitting_4 g_X11_fitting_4
  refine gr_fx (fun frec rec hrec s => ?_) _ _
  exact rB_X11_fitting_4 _ _ _ hrec _ _
def g_X11_fitting (x1 : Int) : gM Int :=
  g_X11_fitting_4 x1 0 0
set_option maxRecDepth 20000 in
theorem r_X11_fitting (x1 : Int) : gr (f_X11_fitting 1 x1) (g_X11_fitting x1) := by
  unfold f_X11_fitting g_X11_fitting
  exact r_X11_fitting_4 _ _ _
def g_X12_layCounts_64 (rec_30 : Int → gM Int) (x1 : Int) : gM Int :=
  glet ((x1 + (-1))) (fun x1_64 => rec_30 x1_64)
set_option maxRecDepth 20000 in
theorem r_X12_layCounts_64 (frec_30 : Int → hf_M Int) (rec_30 : Int → gM Int) (hrec_30 : ∀ s : Int, gr (frec_30 s) (rec_30 s)) (x1 : Int) : gr (f_X12_layCounts_64 frec_30 69 x1) (g_X12_layCounts_64 rec_30 x1) := by
  unfold f_X12_layCounts_64 g_X12_layCounts_64
  refine gr_let (fun x1_64 => ?_)
  exact hrec_30 _
def gB_X12_layCounts_30 (rec_30 : Int → gM Int) (x1 : Int) : gM Int :=
  gcz (x1) ((x1 < 0)) (gret (0)) (gal 96 40 (x1) (fun v39 => gcz (v39) ((0 ≤ v39)) (g_X12_layCounts_64 rec_30 x1) (gal 100 40 (x1) (fun v48 => gcz (v48) ((v48 = 0)) (g_X12_layCounts_64 rec_30 x1) (gal 98 40 (x1) (fun v61 => gas 100 40 (v61) (0) (g_X12_layCounts_64 rec_30 x1)))))))
set_option maxRecDepth 20000 in
theorem rB_X12_layCounts_30 (frec_30 : Int → hf_M Int) (rec_30 : Int → gM Int) (hrec_30 : ∀ s : Int, gr (frec_30 s) (rec_30 s)) (x1 : Int) : gr (B_X12_layCounts_30 69 frec_30 x1) (gB_X12_layCounts_30 rec_30 x1) := by
  unfold B_X12_layCounts_30 gB_X12_layCounts_30
  refine gr_cz ?_ ?_
  · exact gr_ret _
  · refine gr_gfp 69 96 (by decide) (by decide) rfl rfl (by decide) ?_
    refine gr_al 96 40 (by decide) (by decide) rfl (by decide) rfl (fun v39 => ?_)
    refine gr_cz ?_ ?_
    · exact r_X12_layCounts_64 frec_30 rec_30 hrec_30 _
    · refine gr_gfp 69 100 (by decide) (by decide) rfl rfl (by decide) ?_
      refine gr_al 100 40 (by decide) (by decide) rfl (by decide) rfl (fun v48 => ?_)
      refine gr_cz ?_ ?_
      · exact r_X12_layCounts_64 frec_30 rec_30 hrec_30 _
      · refine gr_gfp 69 100 (by decide) (by decide) rfl rfl (by decide) ?_
        refine gr_gfp 69 98 (by decide) (by decide) rfl rfl (by decide) ?_
        refine gr_al 98 40 (by decide) (by decide) rfl (by decide) rfl (fun v61 => ?_)
        refine gr_as 100 40 (by decide) (by decide) rfl (by decide) rfl rfl ?_
        exact r_X12_layCounts_64 frec_30 rec_30 hrec_30 _
def g_X12_layCounts_30 (x1 : Int) : gM Int :=
  gfx (fun rec s => gB_X12_layCounts_30 rec s) hf_N x1
set_option maxRecDepth 20000 in
theorem r_X12_layCounts_30 (x1 : Int) : gr (f_X12_layCounts_30 69 x1) (g_X12_layCounts_30 x1) := by
  unfold f_X12_layCounts_30 g_X12_layCounts_30
  refine gr_fx (fun frec rec hrec s => ?_) _ _
  exact rB_X12_layCounts_30 _ _ hrec _
def gB_X12_layCounts_2 (rec_2 : Int → gM Int) (x1 : Int) : gM Int :=
  gget (-6957) (fun v4 => gcb (x1) (v4) ((v4 ≤ x1)) (gget (-6957) (fun v24 => glet ((v24 - 1)) (fun x1_29 => g_X12_layCounts_30 x1_29))) (gas 100 40 (x1) (1) (glet ((x1 + 1)) (fun x1_17 => rec_2 x1_17))))
set_option maxRecDepth 20000 in
theorem rB_X12_layCounts_2 (frec_2 : Int → hf_M Int) (rec_2 : Int → gM Int) (hrec_2 : ∀ s : Int, gr (frec_2 s) (rec_2 s)) (x1 : Int) : gr (B_X12_layCounts_2 69 frec_2 x1) (gB_X12_layCounts_2 rec_2 x1) := by
  unfold B_X12_layCounts_2 gB_X12_layCounts_2
  refine gr_gf 69 (by decide) (by decide) rfl (by decide) rfl (fun v4 => ?_)
  refine gr_cb ?_ ?_
  · refine gr_gf 69 (by decide) (by decide) rfl (by decide) rfl (fun v24 => ?_)
    refine gr_let (fun x1_29 => ?_)
    exact r_X12_layCounts_30 _
  · refine gr_gfp 69 100 (by decide) (by decide) rfl rfl (by decide) ?_
    refine gr_as 100 40 (by decide) (by decide) rfl (by decide) rfl rfl ?_
    refine gr_let (fun x1_17 => ?_)
    exact hrec_2 _
def g_X12_layCounts_2 (x1 : Int) : gM Int :=
  gfx (fun rec s => gB_X12_layCounts_2 rec s) hf_N x1
set_option maxRecDepth 20000 in
theorem r_X12_layCounts_2 (x1 : Int) : gr (f_X12_layCounts_2 69 x1) (g_X12_layCounts_2 x1) := by
  unfold f_X12_layCounts_2 g_X12_layCounts_2
  refine gr_fx (fun frec rec hrec s => ?_) _ _
  exact rB_X12_layCounts_2 _ _ hrec _
def g_X12_layCounts  : gM Int :=
  g_X12_layCounts_2 0
set_option maxRecDepth 20000 in
theorem r_X12_layCounts  : gr (f_X12_layCounts 69) (g_X12_layCounts ) := by
  unfold f_X12_layCounts g_X12_layCounts
  exact r_X12_layCounts_2 _
def g_X12_isAgainst (x1 : Int) (x2 : Int) : gM Int :=
  gal 100 40 (x1) (fun v5 => gcz (v5) ((v5 = 0)) (gret (0)) (gal 96 40 (x1) (fun v14 => gcz (v14) ((v14 < 0)) (gret (0)) (gal 97 40 (x1) (fun v25 => gal 98 40 (x1) (fun v31 => gck (hf_inI v31) (gbd (g_X12_breaks x2 v25 v31) (fun v33 => gal 99 40 (x1) (fun v41 => gcb (v33) (v41) ((v33 = v41)) (gret (0)) (gret (1)))))))))))
set_option maxRecDepth 20000 in
theorem r_X12_isAgainst (x1 : Int) (x2 : Int) : gr (f_X12_isAgainst 69 x1 x2) (g_X12_isAgainst x1 x2) := by
  unfold f_X12_isAgainst g_X12_isAgainst
  refine gr_gfp 69 100 (by decide) (by decide) rfl rfl (by decide) ?_
  refine gr_al 100 40 (by decide) (by decide) rfl (by decide) rfl (fun v5 => ?_)
  refine gr_cz ?_ ?_
  · exact gr_ret _
  · refine gr_gfp 69 96 (by decide) (by decide) rfl rfl (by decide) ?_
    refine gr_al 96 40 (by decide) (by decide) rfl (by decide) rfl (fun v14 => ?_)
    refine gr_cz ?_ ?_
    · exact gr_ret _
    · refine gr_gfp 69 97 (by decide) (by decide) rfl rfl (by decide) ?_
      refine gr_al 97 40 (by decide) (by decide) rfl (by decide) rfl (fun v25 => ?_)
      refine gr_gfp 69 98 (by decide) (by decide) rfl rfl (by decide) ?_
      refine gr_al 98 40 (by decide) (by decide) rfl (by decide) rfl (fun v31 => ?_)
      refine gr_ck (fun _ => ?_)
      refine gr_bd (gr_ob 69 (by decide) (by decide) rfl (r_X12_breaks _ _ _)) (fun v33 => ?_)
      refine gr_gfp 69 99 (by decide) (by decide) rfl rfl (by decide) ?_
      refine gr_al 99 40 (by decide) (by decide) rfl (by decide) rfl (fun v41 => ?_)
      refine gr_cb ?_ ?_
      · exact gr_ret _
      · exact gr_ret _
def gB_X12_doubtOf_4 (x1 : Int) (rec_4 : Int × Int → gM Int) (x2 : Int) (x3 : Int) : gM Int :=
  gget (-6957) (fun v6 => gcb (x3) (v6) ((v6 ≤ x3)) (gret (x2)) (gbd (g_X12_isAgainst x3 x1) (fun v16 => gck (hf_inI v16) (glet ((if (v16 = 0) then 0 else 1)) (fun w27 => glet ((x2 + w27)) (fun x2_28 => glet ((x3 + 1)) (fun x3_29 => rec_4 (x2_28, x3_29))))))))
set_option maxRecDepth 20000 in
theorem rB_X12_doubtOf_4 (x1 : Int) (frec_4 : Int × Int → hf_M Int) (rec_4 : Int × Int → gM Int) (hrec_4 : ∀ s : Int × Int, gr (frec_4 s) (rec_4 s)) (x2 : Int) (x3 : Int) : gr (B_X12_doubtOf_4 69 x1 frec_4 x2 x3) (gB_X12_doubtOf_4 x1 rec_4 x2 x3) := by
  unfold B_X12_doubtOf_4 gB_X12_doubtOf_4
  refine gr_gf 69 (by decide) (by decide) rfl (by decide) rfl (fun v6 => ?_)
  refine gr_cb ?_ ?_
  · exact gr_ret _
  · refine gr_bd (gr_ob 69 (by decide) (by decide) rfl (r_X12_isAgainst _ _)) (fun v16 => ?_)
    refine gr_ck (fun _ => ?_)
    refine gr_let (fun w27 => ?_)
    refine gr_let (fun x2_28 => ?_)
    refine gr_let (fun x3_29 => ?_)
    exact hrec_4 _
def g_X12_doubtOf_4 (x1 : Int) (x2 : Int) (x3 : Int) : gM Int :=
  gfx (fun rec s => gB_X12_doubtOf_4 x1 rec s.1 s.2) hf_N (x2, x3)
set_option maxRecDepth 20000 in
theorem r_X12_doubtOf_4 (x1 : Int) (x2 : Int) (x3 : Int) : gr (f_X12_doubtOf_4 69 x1 x2 x3) (g_X12_doubtOf_4 x1 x2 x3) := by
  unfold f_X12_doubtOf_4 g_X12_doubtOf_4
  refine gr_fx (fun frec rec hrec s => ?_) _ _
  exact rB_X12_doubtOf_4 _ _ _ hrec _ _
def g_X12_doubtOf (x1 : Int) : gM Int :=
  g_X12_doubtOf_4 x1 0 0
set_option maxRecDepth 20000 in
theorem r_X12_doubtOf (x1 : Int) : gr (f_X12_doubtOf 69 x1) (g_X12_doubtOf x1) := by
  unfold f_X12_doubtOf g_X12_doubtOf
  exact r_X12_doubtOf_4 _ _ _
def g_X12_fitting_42 (rec_13 : Int × Int → gM Int) (x1 : Int) (x2 : Int) (x3 : Int) : gM Int :=
  glet ((x3 + 1)) (fun x3_42 => rec_13 (x2, x3_42))
set_option maxRecDepth 20000 in
theorem r_X12_fitting_42 (frec_13 : Int × Int → hf_M Int) (rec_13 : Int × Int → gM Int) (hrec_13 : ∀ s : Int × Int, gr (frec_13 s) (rec_13 s)) (x1 : Int) (x2 : Int) (x3 : Int) : gr (f_X12_fitting_42 frec_13 69 x1 x2 x3) (g_X12_fitting_42 rec_13 x1 x2 x3) := by
  unfold f_X12_fitting_42 g_X12_fitting_42
  refine gr_let (fun x3_42 => ?_)
  exact hrec_13 _
def gB_X12_fitting_13 (x1 : Int) (rec_13 : Int × Int → gM Int) (x2 : Int) (x3 : Int) : gM Int :=
  gget (-6903) (fun v15 => gcb (x3) (v15) ((v15 < x3)) (gck ((hf_inI x1) ∧ (hf_inI (-1))) (glet ((if (¬ (x1 = (-1))) then (-1) else x2)) (fun w58 => gret (w58)))) (gbd (g_X12_doubtOf x3) (fun v23 => gcz (v23) ((v23 ≤ 0)) (gcb (x2) (x1) ((¬ (x2 = x1))) (glet ((x2 + 1)) (fun x2_39 => g_X12_fitting_42 rec_13 x1 x2_39 x3)) (gret (x3))) (g_X12_fitting_42 rec_13 x1 x2 x3))))
set_option maxRecDepth 20000 in
theorem rB_X12_fitting_13 (x1 : Int) (frec_13 : Int × Int → hf_M Int) (rec_13 : Int × Int → gM Int) (hrec_13 : ∀ s : Int × Int, gr (frec_13 s) (rec_13 s)) (x2 : Int) (x3 : Int) : gr (B_X12_fitting_13 69 x1 frec_13 x2 x3) (gB_X12_fitting_13 x1 rec_13 x2 x3) := by
  unfold B_X12_fitting_13 gB_X12_fitting_13
  refine gr_gf 69 (by decide) (by decide) rfl (by decide) rfl (fun v15 => ?_)
  refine gr_cb ?_ ?_
  · refine gr_ck (fun _ => ?_)
    refine gr_let (fun w58 => ?_)
    exact gr_ret _
  · refine gr_bd (gr_ob 69 (by decide) (by decide) rfl (r_X12_doubtOf _)) (fun v23 => ?_)
    refine gr_cz ?_ ?_
    · refine gr_cb ?_ ?_
      · refine gr_let (fun x2_39 => ?_)
        exact r_X12_fitting_42 frec_13 rec_13 hrec_13 _ _ _
      · exact gr_ret _
    · exact r_X12_fitting_42 frec_13 rec_13 hrec_13 _ _ _
def g_X12_fitting_13 (x1 : Int) (x2 : Int) (x3 : Int) : gM Int :=
  gfx (fun rec s => gB_X12_fitting_13 x1 rec s.1 s.2) hf_N (x2, x3)
set_option maxRecDepth 20000 in
theorem r_X12_fitting_13 (x1 : Int) (x2 : Int) (x3 : Int) : gr (f_X12_fitting_13 69 x1 x2 x3) (g_X12_fitting_13 x1 x2 x3) := by
  unfold f_X12_fitting_13 g_X12_fitting_13
  refine gr_fx (fun frec rec hrec s => ?_) _ _
  exact rB_X12_fitting_13 _ _ _ hrec _ _
def g_X12_fitting (x1 : Int) : gM Int :=
  gput (-6902) (0) (gbd (g_X12_layCounts) (fun _ => g_X12_fitting_13 x1 0 0))
set_option maxRecDepth 20000 in
theorem r_X12_fitting (x1 : Int) : gr (f_X12_fitting 69 x1) (g_X12_fitting x1) := by
  unfold f_X12_fitting g_X12_fitting
  refine gr_pf 69 (by decide) (by decide) rfl (by decide) (by decide) rfl rfl ?_
  refine gr_bd (gr_ob 69 (by decide) (by decide) rfl (r_X12_layCounts)) (fun _ => ?_)
  exact r_X12_fitting_13 _ _ _
def g_X11_doubt (x1 : Int) : gM Int :=
  gbd (g_X8_hasStrength x1) (fun v5 => gcz (v5) ((v5 = 0)) (gret ((-1))) (gbd (g_X3_wrongAt x1) (fun v20 => gret (v20))))
set_option maxRecDepth 20000 in
theorem r_X11_doubt (x1 : Int) : gr (f_X11_doubt 1 x1) (g_X11_doubt x1) := by
  unfold f_X11_doubt g_X11_doubt
  refine gr_gfp 1 2 (by decide) (by decide) rfl rfl (by decide) ?_
  refine gr_bd (gr_ob 2 (by decide) (by decide) rfl (r_X8_hasStrength _)) (fun v5 => ?_)
  refine gr_cz ?_ ?_
  · exact gr_ret _
  · refine gr_gfp 1 53 (by decide) (by decide) rfl rfl (by decide) ?_
    refine gr_gfp 1 2 (by decide) (by decide) rfl rfl (by decide) ?_
    refine gr_bd (gr_ob 53 (by decide) (by decide) rfl (r_X3_wrongAt _)) (fun v20 => ?_)
    exact gr_ret _
def g_X12_doubt (x1 : Int) : gM Int :=
  gput (-6902) (0) (gbd (g_X12_isStrength x1) (fun v7 => gcz (v7) ((¬ (v7 = 0))) (gbd (g_X12_layCounts) (fun _ => gbd (g_X12_doubtOf x1) (fun v21 => gret (v21)))) (gret ((-1)))))
set_option maxRecDepth 20000 in
theorem r_X12_doubt (x1 : Int) : gr (f_X12_doubt 69 x1) (g_X12_doubt x1) := by
  unfold f_X12_doubt g_X12_doubt
  refine gr_pf 69 (by decide) (by decide) rfl (by decide) (by decide) rfl rfl ?_
  refine gr_bd (gr_ob 69 (by decide) (by decide) rfl (r_X12_isStrength _)) (fun v7 => ?_)
  refine gr_cz ?_ ?_
  · refine gr_bd (gr_ob 69 (by decide) (by decide) rfl (r_X12_layCounts)) (fun _ => ?_)
    refine gr_bd (gr_ob 69 (by decide) (by decide) rfl (r_X12_doubtOf _)) (fun v21 => ?_)
    exact gr_ret _
  · exact gr_ret _
def g_X3_leastDoubted_42 (rec_12 : Int × Int × Int → gM Int) (x2 : Int) (x3 : Int) (x4 : Int) : gM Int :=
  glet ((x4 + 1)) (fun x4_42 => rec_12 (x2, x3, x4_42))
set_option maxRecDepth 20000 in
theorem r_X3_leastDoubted_42 (frec_12 : Int × Int × Int → hf_M Int) (rec_12 : Int × Int × Int → gM Int) (hrec_12 : ∀ s : Int × Int × Int, gr (frec_12 s) (rec_12 s)) (x2 : Int) (x3 : Int) (x4 : Int) : gr (f_X3_leastDoubted_42 frec_12 53 2 x2 x3 x4) (g_X3_leastDoubted_42 rec_12 x2 x3 x4) := by
  unfold f_X3_leastDoubted_42 g_X3_leastDoubted_42
  refine gr_let (fun x4_42 => ?_)
  exact hrec_12 _
def gB_X3_leastDoubted_12 (rec_12 : Int × Int × Int → gM Int) (x2 : Int) (x3 : Int) (x4 : Int) : gM Int :=
  gget (-200) (fun v15 => gcb (x4) (v15) ((v15 < x4)) (gret (x2)) (gbd (g_X3_wrongAt x4) (fun v25 => gcb (v25) (x3) ((x3 ≤ v25)) (g_X3_leastDoubted_42 rec_12 x2 x3 x4) (g_X3_leastDoubted_42 rec_12 x4 v25 x4))))
set_option maxRecDepth 20000 in
theorem rB_X3_leastDoubted_12 (frec_12 : Int × Int × Int → hf_M Int) (rec_12 : Int × Int × Int → gM Int) (hrec_12 : ∀ s : Int × Int × Int, gr (frec_12 s) (rec_12 s)) (x2 : Int) (x3 : Int) (x4 : Int) : gr (B_X3_leastDoubted_12 53 2 frec_12 x2 x3 x4) (gB_X3_leastDoubted_12 rec_12 x2 x3 x4) := by
  unfold B_X3_leastDoubted_12 gB_X3_leastDoubted_12
  refine gr_gf 2 (by decide) (by decide) rfl (by decide) rfl (fun v15 => ?_)
  refine gr_cb ?_ ?_
  · exact gr_ret _
  · refine gr_bd (gr_ob 53 (by decide) (by decide) rfl (r_X3_wrongAt _)) (fun v25 => ?_)
    refine gr_cb ?_ ?_
    · exact r_X3_leastDoubted_42 frec_12 rec_12 hrec_12 _ _ _
    · exact r_X3_leastDoubted_42 frec_12 rec_12 hrec_12 _ _ _
def g_X3_leastDoubted_12 (x2 : Int) (x3 : Int) (x4 : Int) : gM Int :=
  gfx (fun rec s => gB_X3_leastDoubted_12 rec s.1 s.2.1 s.2.2) hf_N (x2, x3, x4)
set_option maxRecDepth 20000 in
theorem r_X3_leastDoubted_12 (x2 : Int) (x3 : Int) (x4 : Int) : gr (f_X3_leastDoubted_12 53 2 x2 x3 x4) (g_X3_leastDoubted_12 x2 x3 x4) := by
  unfold f_X3_leastDoubted_12 g_X3_leastDoubted_12
  refine gr_fx (fun frec rec hrec s => ?_) _ _
  exact rB_X3_leastDoubted_12 _ _ hrec _ _ _
def g_X3_leastDoubted  : gM Int :=
  gbd (g_X3_wrongAt 0) (fun v5 => g_X3_leastDoubted_12 0 v5 1)
set_option maxRecDepth 20000 in
theorem r_X3_leastDoubted  : gr (f_X3_leastDoubted 53 2) (g_X3_leastDoubted ) := by
  unfold f_X3_leastDoubted g_X3_leastDoubted
  refine gr_bd (gr_ob 53 (by decide) (by decide) rfl (r_X3_wrongAt _)) (fun v5 => ?_)
  exact r_X3_leastDoubted_12 _ _ _
def g_X11_least (x1 : Int) : gM Int :=
  gbd (g_X11_isWithin x1 1) (fun v2 => gcz (v2) ((¬ (v2 = 0))) (gbd (g_X3_leastDoubted) (fun v18 => gcz (x1) ((¬ (x1 = 0))) (gret (v18)) (gbd (g_X3_wrongAt v18) (fun v35 => gret (v35))))) (gret ((-1))))
set_option maxRecDepth 20000 in
theorem r_X11_least (x1 : Int) : gr (f_X11_least 1 x1) (g_X11_least x1) := by
  unfold f_X11_least g_X11_least
  refine gr_bd (r_X11_isWithin _ _) (fun v2 => ?_)
  refine gr_cz ?_ ?_
  · refine gr_gfp 1 53 (by decide) (by decide) rfl rfl (by decide) ?_
    refine gr_gfp 1 2 (by decide) (by decide) rfl rfl (by decide) ?_
    refine gr_bd (gr_ob 53 (by decide) (by decide) rfl (r_X3_leastDoubted)) (fun v18 => ?_)
    refine gr_cz ?_ ?_
    · exact gr_ret _
    · refine gr_gfp 1 53 (by decide) (by decide) rfl rfl (by decide) ?_
      refine gr_gfp 1 2 (by decide) (by decide) rfl rfl (by decide) ?_
      refine gr_bd (gr_ob 53 (by decide) (by decide) rfl (r_X3_wrongAt _)) (fun v35 => ?_)
      exact gr_ret _
  · exact gr_ret _
def gB_X12_leastDoubted_4 (rec_4 : Int × Int → gM Int) (x1 : Int) (x2 : Int) : gM Int :=
  gget (-6903) (fun v6 => gcb (x2) (v6) ((v6 < x2)) (gret (x1)) (gbd (g_X12_doubtOf x2) (fun v14 => gbd (g_X12_doubtOf x1) (fun v19 => gck ((hf_inI v14) ∧ (hf_inI v19)) (glet ((if (v19 ≤ v14) then x1 else x2)) (fun w30 => glet ((x2 + 1)) (fun x2_31 => rec_4 (w30, x2_31))))))))
set_option maxRecDepth 20000 in
theorem rB_X12_leastDoubted_4 (frec_4 : Int × Int → hf_M Int) (rec_4 : Int × Int → gM Int) (hrec_4 : ∀ s : Int × Int, gr (frec_4 s) (rec_4 s)) (x1 : Int) (x2 : Int) : gr (B_X12_leastDoubted_4 69 frec_4 x1 x2) (gB_X12_leastDoubted_4 rec_4 x1 x2) := by
  unfold B_X12_leastDoubted_4 gB_X12_leastDoubted_4
  refine gr_gf 69 (by decide) (by decide) rfl (by decide) rfl (fun v6 => ?_)
  refine gr_cb ?_ ?_
  · exact gr_ret _
  · refine gr_bd (gr_ob 69 (by decide) (by decide) rfl (r_X12_doubtOf _)) (fun v14 => ?_)
    refine gr_bd (gr_ob 69 (by decide) (by decide) rfl (r_X12_doubtOf _)) (fun v19 => ?_)
    refine gr_ck (fun _ => ?_)
    refine gr_let (fun w30 => ?_)
    refine gr_let (fun x2_31 => ?_)
    exact hrec_4 _
def g_X12_leastDoubted_4 (x1 : Int) (x2 : Int) : gM Int :=
  gfx (fun rec s => gB_X12_leastDoubted_4 rec s.1 s.2) hf_N (x1, x2)
set_option maxRecDepth 20000 in
theorem r_X12_leastDoubted_4 (x1 : Int) (x2 : Int) : gr (f_X12_leastDoubted_4 69 x1 x2) (g_X12_leastDoubted_4 x1 x2) := by
  unfold f_X12_leastDoubted_4 g_X12_leastDoubted_4
  refine gr_fx (fun frec rec hrec s => ?_) _ _
  exact rB_X12_leastDoubted_4 _ _ hrec _ _
def g_X12_leastDoubted  : gM Int :=
  g_X12_leastDoubted_4 0 1
set_option maxRecDepth 20000 in
theorem r_X12_leastDoubted  : gr (f_X12_leastDoubted 69) (g_X12_leastDoubted ) := by
  unfold f_X12_leastDoubted g_X12_leastDoubted
  exact r_X12_leastDoubted_4 _ _
def g_X12_least (x1 : Int) : gM Int :=
  gput (-6902) (0) (gbd (g_X12_isIn x1 0 1) (fun v8 => gcz (v8) ((¬ (v8 = 0))) (gbd (g_X12_layCounts) (fun _ => gbd (g_X12_leastDoubted) (fun v21 => gcz (x1) ((¬ (x1 = 0))) (gret (v21)) (gbd (g_X12_doubtOf v21) (fun v31 => gret (v31)))))) (gret ((-1)))))
set_option maxRecDepth 20000 in
theorem r_X12_least (x1 : Int) : gr (f_X12_least 69 x1) (g_X12_least x1) := by
  unfold f_X12_least g_X12_least
  refine gr_pf 69 (by decide) (by decide) rfl (by decide) (by decide) rfl rfl ?_
  refine gr_bd (r_X12_isIn _ _ _) (fun v8 => ?_)
  refine gr_cz ?_ ?_
  · refine gr_bd (gr_ob 69 (by decide) (by decide) rfl (r_X12_layCounts)) (fun _ => ?_)
    refine gr_bd (gr_ob 69 (by decide) (by decide) rfl (r_X12_leastDoubted)) (fun v21 => ?_)
    refine gr_cz ?_ ?_
    · exact gr_ret _
    · refine gr_bd (gr_ob 69 (by decide) (by decide) rfl (r_X12_doubtOf _)) (fun v31 => ?_)
      exact gr_ret _
  · exact gr_ret _
def g_X3_wrongBy_40 (rec_6 : Int × Int → gM Int) (x1 : Int) (x3 : Int) (x4 : Int) (x5 : Int) : gM Int :=
  glet ((x5 + 1)) (fun x5_40 => rec_6 (x4, x5_40))
set_option maxRecDepth 20000 in
theorem r_X3_wrongBy_40 (frec_6 : Int × Int → hf_M Int) (rec_6 : Int × Int → gM Int) (hrec_6 : ∀ s : Int × Int, gr (frec_6 s) (rec_6 s)) (x1 : Int) (x3 : Int) (x4 : Int) (x5 : Int) : gr (f_X3_wrongBy_40 frec_6 53 x1 2 x3 x4 x5) (g_X3_wrongBy_40 rec_6 x1 x3 x4 x5) := by
  unfold f_X3_wrongBy_40 g_X3_wrongBy_40
  refine gr_let (fun x5_40 => ?_)
  exact hrec_6 _
def gB_X3_wrongBy_6 (x1 : Int) (x3 : Int) (rec_6 : Int × Int → gM Int) (x4 : Int) (x5 : Int) : gM Int :=
  gget (-5300) (fun v9 => gcb (x5) (v9) ((v9 ≤ x5)) (gret (x4)) (gal 54 40 (x5) (fun v21 => gcb (v21) (x1) ((¬ (v21 = x1))) (g_X3_wrongBy_40 rec_6 x1 x3 x4 x5) (gbd (g_X3_isWrong x5 x3) (fun v31 => gcz (v31) ((v31 = 0)) (g_X3_wrongBy_40 rec_6 x1 x3 x4 x5) (glet ((x4 + 1)) (fun x4_37 => g_X3_wrongBy_40 rec_6 x1 x3 x4_37 x5)))))))
set_option maxRecDepth 20000 in
theorem rB_X3_wrongBy_6 (x1 : Int) (x3 : Int) (frec_6 : Int × Int → hf_M Int) (rec_6 : Int × Int → gM Int) (hrec_6 : ∀ s : Int × Int, gr (frec_6 s) (rec_6 s)) (x4 : Int) (x5 : Int) : gr (B_X3_wrongBy_6 53 x1 2 x3 frec_6 x4 x5) (gB_X3_wrongBy_6 x1 x3 rec_6 x4 x5) := by
  unfold B_X3_wrongBy_6 gB_X3_wrongBy_6
  refine gr_gf 53 (by decide) (by decide) rfl (by decide) rfl (fun v9 => ?_)
  refine gr_cb ?_ ?_
  · exact gr_ret _
  · refine gr_gfp 53 54 (by decide) (by decide) rfl rfl (by decide) ?_
    refine gr_al 54 40 (by decide) (by decide) rfl (by decide) rfl (fun v21 => ?_)
    refine gr_cb ?_ ?_
    · exact r_X3_wrongBy_40 frec_6 rec_6 hrec_6 _ _ _ _
    · refine gr_bd (gr_ob 53 (by decide) (by decide) rfl (r_X3_isWrong _ _)) (fun v31 => ?_)
      refine gr_cz ?_ ?_
      · exact r_X3_wrongBy_40 frec_6 rec_6 hrec_6 _ _ _ _
      · refine gr_let (fun x4_37 => ?_)
        exact r_X3_wrongBy_40 frec_6 rec_6 hrec_6 _ _ _ _
def g_X3_wrongBy_6 (x1 : Int) (x3 : Int) (x4 : Int) (x5 : Int) : gM Int :=
  gfx (fun rec s => gB_X3_wrongBy_6 x1 x3 rec s.1 s.2) hf_N (x4, x5)
set_option maxRecDepth 20000 in
theorem r_X3_wrongBy_6 (x1 : Int) (x3 : Int) (x4 : Int) (x5 : Int) : gr (f_X3_wrongBy_6 53 x1 2 x3 x4 x5) (g_X3_wrongBy_6 x1 x3 x4 x5) := by
  unfold f_X3_wrongBy_6 g_X3_wrongBy_6
  refine gr_fx (fun frec rec hrec s => ?_) _ _
  exact rB_X3_wrongBy_6 _ _ _ _ hrec _ _
def g_X3_wrongBy (x1 : Int) (x3 : Int) : gM Int :=
  g_X3_wrongBy_6 x1 x3 0 0
set_option maxRecDepth 20000 in
theorem r_X3_wrongBy (x1 : Int) (x3 : Int) : gr (f_X3_wrongBy 53 x1 2 x3) (g_X3_wrongBy x1 x3) := by
  unfold f_X3_wrongBy g_X3_wrongBy
  exact r_X3_wrongBy_6 _ _ _ _
def g_X11_doubted (x1 : Int) : gM Int :=
  gbd (g_X11_isWithin x1 5) (fun v2 => gcz (v2) ((¬ (v2 = 0))) (gbd (g_X3_leastDoubted) (fun v27 => gbd (g_X3_wrongBy x1 v27) (fun v30 => gret (v30)))) (gret ((-1))))
set_option maxRecDepth 20000 in
theorem r_X11_doubted (x1 : Int) : gr (f_X11_doubted 1 x1) (g_X11_doubted x1) := by
  unfold f_X11_doubted g_X11_doubted
  refine gr_bd (r_X11_isWithin _ _) (fun v2 => ?_)
  refine gr_cz ?_ ?_
  · refine gr_gfp 1 53 (by decide) (by decide) rfl rfl (by decide) ?_
    refine gr_gfp 1 2 (by decide) (by decide) rfl rfl (by decide) ?_
    refine gr_gfp 1 53 (by decide) (by decide) rfl rfl (by decide) ?_
    refine gr_gfp 1 2 (by decide) (by decide) rfl rfl (by decide) ?_
    refine gr_bd (gr_ob 53 (by decide) (by decide) rfl (r_X3_leastDoubted)) (fun v27 => ?_)
    refine gr_bd (gr_ob 53 (by decide) (by decide) rfl (r_X3_wrongBy _ _)) (fun v30 => ?_)
    exact gr_ret _
  · exact gr_ret _
def g_X12_doubted_66 (rec_30 : Int × Int → gM Int) (x1 : Int) (x2 : Int) (x4 : Int) (s0 : Int) (s1 : Int) : gM Int :=
  glet ((s0 + s1)) (fun x3_67 => glet ((x4 + 1)) (fun x4_68 => rec_30 (x3_67, x4_68)))
set_option maxRecDepth 20000 in
theorem r_X12_doubted_66 (frec_30 : Int × Int → hf_M Int) (rec_30 : Int × Int → gM Int) (hrec_30 : ∀ s : Int × Int, gr (frec_30 s) (rec_30 s)) (x1 : Int) (x2 : Int) (x4 : Int) (s0 : Int) (s1 : Int) : gr (f_X12_doubted_66 frec_30 69 x1 x2 x4 s0 s1) (g_X12_doubted_66 rec_30 x1 x2 x4 s0 s1) := by
  unfold f_X12_doubted_66 g_X12_doubted_66
  refine gr_let (fun x3_67 => ?_)
  refine gr_let (fun x4_68 => ?_)
  exact hrec_30 _
def gB_X12_doubted_30 (x1 : Int) (x2 : Int) (rec_30 : Int × Int → gM Int) (x3 : Int) (x4 : Int) : gM Int :=
  gget (-6957) (fun v33 => gcb (x4) (v33) ((v33 ≤ x4)) (gret (x3)) (gal 96 40 (x4) (fun v46 => gcb (v46) (x1) ((¬ (v46 = x1))) (g_X12_doubted_66 rec_30 x1 x2 x4 x3 0) (gbd (g_X12_isAgainst x4 x2) (fun v55 => gcz (v55) ((v55 = 0)) (g_X12_doubted_66 rec_30 x1 x2 x4 x3 0) (g_X12_doubted_66 rec_30 x1 x2 x4 x3 1))))))
set_option maxRecDepth 20000 in
theorem rB_X12_doubted_30 (x1 : Int) (x2 : Int) (frec_30 : Int × Int → hf_M Int) (rec_30 : Int × Int → gM Int) (hrec_30 : ∀ s : Int × Int, gr (frec_30 s) (rec_30 s)) (x3 : Int) (x4 : Int) : gr (B_X12_doubted_30 69 x1 x2 frec_30 x3 x4) (gB_X12_doubted_30 x1 x2 rec_30 x3 x4) := by
  unfold B_X12_doubted_30 gB_X12_doubted_30
  refine gr_gf 69 (by decide) (by decide) rfl (by decide) rfl (fun v33 => ?_)
  refine gr_cb ?_ ?_
  · exact gr_ret _
  · refine gr_gfp 69 96 (by decide) (by decide) rfl rfl (by decide) ?_
    refine gr_al 96 40 (by decide) (by decide) rfl (by decide) rfl (fun v46 => ?_)
    refine gr_cb ?_ ?_
    · exact r_X12_doubted_66 frec_30 rec_30 hrec_30 _ _ _ _ _
    · refine gr_bd (gr_ob 69 (by decide) (by decide) rfl (r_X12_isAgainst _ _)) (fun v55 => ?_)
      refine gr_cz ?_ ?_
      · exact r_X12_doubted_66 frec_30 rec_30 hrec_30 _ _ _ _ _
      · exact r_X12_doubted_66 frec_30 rec_30 hrec_30 _ _ _ _ _
def g_X12_doubted_30 (x1 : Int) (x2 : Int) (x3 : Int) (x4 : Int) : gM Int :=
  gfx (fun rec s => gB_X12_doubted_30 x1 x2 rec s.1 s.2) hf_N (x3, x4)
set_option maxRecDepth 20000 in
theorem r_X12_doubted_30 (x1 : Int) (x2 : Int) (x3 : Int) (x4 : Int) : gr (f_X12_doubted_30 69 x1 x2 x3 x4) (g_X12_doubted_30 x1 x2 x3 x4) := by
  unfold f_X12_doubted_30 g_X12_doubted_30
  refine gr_fx (fun frec rec hrec s => ?_) _ _
  exact rB_X12_doubted_30 _ _ _ _ hrec _ _
def g_X12_doubted (x1 : Int) : gM Int :=
  gput (-6902) (0) (gbd (g_X12_isIn x1 0 5) (fun v8 => gcz (v8) ((¬ (v8 = 0))) (gbd (g_X12_layCounts) (fun _ => gbd (g_X12_leastDoubted) (fun v21 => g_X12_doubted_30 x1 v21 0 0))) (gret ((-1)))))
set_option maxRecDepth 20000 in
theorem r_X12_doubted (x1 : Int) : gr (f_X12_doubted 69 x1) (g_X12_doubted x1) := by
  unfold f_X12_doubted g_X12_doubted
  refine gr_pf 69 (by decide) (by decide) rfl (by decide) (by decide) rfl rfl ?_
  refine gr_bd (r_X12_isIn _ _ _) (fun v8 => ?_)
  refine gr_cz ?_ ?_
  · refine gr_bd (gr_ob 69 (by decide) (by decide) rfl (r_X12_layCounts)) (fun _ => ?_)
    refine gr_bd (gr_ob 69 (by decide) (by decide) rfl (r_X12_leastDoubted)) (fun v21 => ?_)
    exact r_X12_doubted_30 _ _ _ _
  · exact gr_ret _
def g_X3_differenceBy_59 (rec_6 : Int × Int → gM Int) (x1 : Int) (x3 : Int) (x4 : Int) (x5 : Int) : gM Int :=
  glet ((x5 + 1)) (fun x5_59 => rec_6 (x4, x5_59))
set_option maxRecDepth 20000 in
theorem r_X3_differenceBy_59 (frec_6 : Int × Int → hf_M Int) (rec_6 : Int × Int → gM Int) (hrec_6 : ∀ s : Int × Int, gr (frec_6 s) (rec_6 s)) (x1 : Int) (x3 : Int) (x4 : Int) (x5 : Int) : gr (f_X3_differenceBy_59 frec_6 53 x1 2 x3 x4 x5) (g_X3_differenceBy_59 rec_6 x1 x3 x4 x5) := by
  unfold f_X3_differenceBy_59 g_X3_differenceBy_59
  refine gr_let (fun x5_59 => ?_)
  exact hrec_6 _
def g_X3_differenceBy_56 (rec_6 : Int × Int → gM Int) (x1 : Int) (x3 : Int) (x5 : Int) (s0 : Int) (s1 : Int) : gM Int :=
  glet ((s0 + s1)) (fun x4_57 => g_X3_differenceBy_59 rec_6 x1 x3 x4_57 x5)
set_option maxRecDepth 20000 in
theorem r_X3_differenceBy_56 (frec_6 : Int × Int → hf_M Int) (rec_6 : Int × Int → gM Int) (hrec_6 : ∀ s : Int × Int, gr (frec_6 s) (rec_6 s)) (x1 : Int) (x3 : Int) (x5 : Int) (s0 : Int) (s1 : Int) : gr (f_X3_differenceBy_56 frec_6 53 x1 2 x3 x5 s0 s1) (g_X3_differenceBy_56 rec_6 x1 x3 x5 s0 s1) := by
  unfold f_X3_differenceBy_56 g_X3_differenceBy_56
  refine gr_let (fun x4_57 => ?_)
  exact r_X3_differenceBy_59 frec_6 rec_6 hrec_6 _ _ _ _
def gB_X3_differenceBy_6 (x1 : Int) (x3 : Int) (rec_6 : Int × Int → gM Int) (x4 : Int) (x5 : Int) : gM Int :=
  gget (-200) (fun v9 => gcb (x5) (v9) ((v9 < x5)) (gck (hf_inI x4) (glet ((if (0 ≤ x4) then x4 else (-x4))) (fun v67 => gret (v67)))) (gal 60 41 (x5) (fun v21 => gcz (v21) ((v21 = 0)) (g_X3_differenceBy_59 rec_6 x1 x3 x4 x5) (gbd (g_X8_breaks x3 x1 x5) (fun v32 => gcz (v32) ((v32 = 0)) (gal 6 41 (x5) (fun v54 => g_X3_differenceBy_56 rec_6 x1 x3 x5 x4 (-v54))) (gal 6 41 (x5) (fun v44 => g_X3_differenceBy_56 rec_6 x1 x3 x5 x4 v44)))))))
set_option maxRecDepth 20000 in
theorem rB_X3_differenceBy_6 (x1 : Int) (x3 : Int) (frec_6 : Int × Int → hf_M Int) (rec_6 : Int × Int → gM Int) (hrec_6 : ∀ s : Int × Int, gr (frec_6 s) (rec_6 s)) (x4 : Int) (x5 : Int) : gr (B_X3_differenceBy_6 53 x1 2 x3 frec_6 x4 x5) (gB_X3_differenceBy_6 x1 x3 rec_6 x4 x5) := by
  unfold B_X3_differenceBy_6 gB_X3_differenceBy_6
  refine gr_gf 2 (by decide) (by decide) rfl (by decide) rfl (fun v9 => ?_)
  refine gr_cb ?_ ?_
  · refine gr_ck (fun _ => ?_)
    refine gr_let (fun v67 => ?_)
    exact gr_ret _
  · refine gr_gfp 53 60 (by decide) (by decide) rfl rfl (by decide) ?_
    refine gr_al 60 41 (by decide) (by decide) rfl (by decide) rfl (fun v21 => ?_)
    refine gr_cz ?_ ?_
    · exact r_X3_differenceBy_59 frec_6 rec_6 hrec_6 _ _ _ _
    · refine gr_bd (gr_ob 2 (by decide) (by decide) rfl (r_X8_breaks _ _ _)) (fun v32 => ?_)
      refine gr_cz ?_ ?_
      · refine gr_gfp 2 6 (by decide) (by decide) rfl rfl (by decide) ?_
        refine gr_al 6 41 (by decide) (by decide) rfl (by decide) rfl (fun v54 => ?_)
        exact r_X3_differenceBy_56 frec_6 rec_6 hrec_6 _ _ _ _ _
      · refine gr_gfp 2 6 (by decide) (by decide) rfl rfl (by decide) ?_
        refine gr_al 6 41 (by decide) (by decide) rfl (by decide) rfl (fun v44 => ?_)
        exact r_X3_differenceBy_56 frec_6 rec_6 hrec_6 _ _ _ _ _
