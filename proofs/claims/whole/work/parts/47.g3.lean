/-! THE PROGRAMS AT THEIR OBJECTS: printed by gen2.py -/
def g_X3_differenceBy_6 (x1 : Int) (x3 : Int) (x4 : Int) (x5 : Int) : gM Int :=
  gfx (fun rec s => gB_X3_differenceBy_6 x1 x3 rec s.1 s.2) hf_N (x4, x5)
set_option maxRecDepth 20000 in
theorem r_X3_differenceBy_6 (x1 : Int) (x3 : Int) (x4 : Int) (x5 : Int) : gr (f_X3_differenceBy_6 53 x1 2 x3 x4 x5) (g_X3_differenceBy_6 x1 x3 x4 x5) := by
  unfold f_X3_differenceBy_6 g_X3_differenceBy_6
  refine gr_fx (fun frec rec hrec s => ?_) _ _
  exact rB_X3_differenceBy_6 _ _ _ _ hrec _ _
def g_X3_differenceBy (x1 : Int) (x3 : Int) : gM Int :=
  g_X3_differenceBy_6 x1 x3 0 0
set_option maxRecDepth 20000 in
theorem r_X3_differenceBy (x1 : Int) (x3 : Int) : gr (f_X3_differenceBy 53 x1 2 x3) (g_X3_differenceBy x1 x3) := by
  unfold f_X3_differenceBy g_X3_differenceBy
  exact r_X3_differenceBy_6 _ _ _ _
def g_X3_partingStep_117 (rec_83 : Int × Int × Int → gM Int) (x2 : Int) (x4 : Int) (x5 : Int) (x6 : Int) : gM Int :=
  glet ((x6 + 1)) (fun x6_117 => rec_83 (x4, x5, x6_117))
set_option maxRecDepth 20000 in
theorem r_X3_partingStep_117 (frec_83 : Int × Int × Int → hf_M Int) (rec_83 : Int × Int × Int → gM Int) (hrec_83 : ∀ s : Int × Int × Int, gr (frec_83 s) (rec_83 s)) (x2 : Int) (x4 : Int) (x5 : Int) (x6 : Int) : gr (f_X3_partingStep_117 frec_83 53 2 x2 x4 x5 x6) (g_X3_partingStep_117 rec_83 x2 x4 x5 x6) := by
  unfold f_X3_partingStep_117 g_X3_partingStep_117
  refine gr_let (fun x6_117 => ?_)
  exact hrec_83 _
def gB_X3_partingStep_83 (x2 : Int) (rec_83 : Int × Int × Int → gM Int) (x4 : Int) (x5 : Int) (x6 : Int) : gM Int :=
  gget (-200) (fun v86 => gcb (x6) (v86) ((v86 < x6)) (gret (x4)) (gbd (g_X3_differenceBy x6 x2) (fun v97 => gcb (v97) (x5) ((x5 ≤ v97)) (g_X3_partingStep_117 rec_83 x2 x4 x5 x6) (g_X3_partingStep_117 rec_83 x2 x6 v97 x6))))
set_option maxRecDepth 20000 in
theorem rB_X3_partingStep_83 (x2 : Int) (frec_83 : Int × Int × Int → hf_M Int) (rec_83 : Int × Int × Int → gM Int) (hrec_83 : ∀ s : Int × Int × Int, gr (frec_83 s) (rec_83 s)) (x4 : Int) (x5 : Int) (x6 : Int) : gr (B_X3_partingStep_83 53 2 x2 frec_83 x4 x5 x6) (gB_X3_partingStep_83 x2 rec_83 x4 x5 x6) := by
  unfold B_X3_partingStep_83 gB_X3_partingStep_83
  refine gr_gf 2 (by decide) (by decide) rfl (by decide) rfl (fun v86 => ?_)
  refine gr_cb ?_ ?_
  · exact gr_ret _
  · refine gr_bd (gr_ob 53 (by decide) (by decide) rfl (r_X3_differenceBy _ _)) (fun v97 => ?_)
    refine gr_cb ?_ ?_
    · exact r_X3_partingStep_117 frec_83 rec_83 hrec_83 _ _ _ _
    · exact r_X3_partingStep_117 frec_83 rec_83 hrec_83 _ _ _ _
def g_X3_partingStep_83 (x2 : Int) (x4 : Int) (x5 : Int) (x6 : Int) : gM Int :=
  gfx (fun rec s => gB_X3_partingStep_83 x2 rec s.1 s.2.1 s.2.2) hf_N (x4, x5, x6)
set_option maxRecDepth 20000 in
theorem r_X3_partingStep_83 (x2 : Int) (x4 : Int) (x5 : Int) (x6 : Int) : gr (f_X3_partingStep_83 53 2 x2 x4 x5 x6) (g_X3_partingStep_83 x2 x4 x5 x6) := by
  unfold f_X3_partingStep_83 g_X3_partingStep_83
  refine gr_fx (fun frec rec hrec s => ?_) _ _
  exact rB_X3_partingStep_83 _ _ _ hrec _ _ _
def g_X3_partingStep_55 (rec_5 : Int × Int → gM Int) (x2 : Int) (x4 : Int) (s0 : Int) : gM Int :=
  glet ((x4 + 1)) (fun x4_56 => rec_5 (s0, x4_56))
set_option maxRecDepth 20000 in
theorem r_X3_partingStep_55 (frec_5 : Int × Int → hf_M Int) (rec_5 : Int × Int → gM Int) (hrec_5 : ∀ s : Int × Int, gr (frec_5 s) (rec_5 s)) (x2 : Int) (x4 : Int) (s0 : Int) : gr (f_X3_partingStep_55 frec_5 53 2 x2 x4 s0) (g_X3_partingStep_55 rec_5 x2 x4 s0) := by
  unfold f_X3_partingStep_55 g_X3_partingStep_55
  refine gr_let (fun x4_56 => ?_)
  exact hrec_5 _
def gB_X3_partingStep_5 (x2 : Int) (rec_5 : Int × Int → gM Int) (x3 : Int) (x4 : Int) : gM Int :=
  gget (-200) (fun v8 => gcb (x4) (v8) ((v8 < x4)) (gcz (x3) ((¬ (x3 = 0))) (gbd (g_X3_differenceBy 1 x2) (fun v75 => g_X3_partingStep_83 x2 1 v75 2)) (gret ((-1)))) (gbd (g_X3_wrongAt x4) (fun v24 => gck (hf_inI v24) (glet ((if (¬ (v24 = 0)) then 0 else 1)) (fun w35 => gck ((w35 = 0) ∨ (w35 = 1)) (gas 60 41 (x4) (w35) (gcz (x3) ((¬ (x3 = 0))) (g_X3_partingStep_55 rec_5 x2 x4 1) (gal 60 41 (x4) (fun v46 => gcz (v46) ((v46 = 0)) (g_X3_partingStep_55 rec_5 x2 x4 0) (g_X3_partingStep_55 rec_5 x2 x4 1))))))))))
set_option maxRecDepth 20000 in
theorem rB_X3_partingStep_5 (x2 : Int) (frec_5 : Int × Int → hf_M Int) (rec_5 : Int × Int → gM Int) (hrec_5 : ∀ s : Int × Int, gr (frec_5 s) (rec_5 s)) (x3 : Int) (x4 : Int) : gr (B_X3_partingStep_5 53 2 x2 frec_5 x3 x4) (gB_X3_partingStep_5 x2 rec_5 x3 x4) := by
  unfold B_X3_partingStep_5 gB_X3_partingStep_5
  refine gr_gf 2 (by decide) (by decide) rfl (by decide) rfl (fun v8 => ?_)
  refine gr_cb ?_ ?_
  · refine gr_cz ?_ ?_
    · refine gr_bd (gr_ob 53 (by decide) (by decide) rfl (r_X3_differenceBy _ _)) (fun v75 => ?_)
      exact r_X3_partingStep_83 _ _ _ _
    · exact gr_ret _
  · refine gr_gfp 53 60 (by decide) (by decide) rfl rfl (by decide) ?_
    refine gr_bd (gr_ob 53 (by decide) (by decide) rfl (r_X3_wrongAt _)) (fun v24 => ?_)
    refine gr_ck (fun _ => ?_)
    refine gr_let (fun w35 => ?_)
    refine gr_ck (fun _ => ?_)
    refine gr_as 60 41 (by decide) (by decide) rfl (by decide) rfl rfl ?_
    refine gr_cz ?_ ?_
    · exact r_X3_partingStep_55 frec_5 rec_5 hrec_5 _ _ _
    · refine gr_gfp 53 60 (by decide) (by decide) rfl rfl (by decide) ?_
      refine gr_al 60 41 (by decide) (by decide) rfl (by decide) rfl (fun v46 => ?_)
      refine gr_cz ?_ ?_
      · exact r_X3_partingStep_55 frec_5 rec_5 hrec_5 _ _ _
      · exact r_X3_partingStep_55 frec_5 rec_5 hrec_5 _ _ _
def g_X3_partingStep_5 (x2 : Int) (x3 : Int) (x4 : Int) : gM Int :=
  gfx (fun rec s => gB_X3_partingStep_5 x2 rec s.1 s.2) hf_N (x3, x4)
set_option maxRecDepth 20000 in
theorem r_X3_partingStep_5 (x2 : Int) (x3 : Int) (x4 : Int) : gr (f_X3_partingStep_5 53 2 x2 x3 x4) (g_X3_partingStep_5 x2 x3 x4) := by
  unfold f_X3_partingStep_5 g_X3_partingStep_5
  refine gr_fx (fun frec rec hrec s => ?_) _ _
  exact rB_X3_partingStep_5 _ _ _ hrec _ _
def g_X3_partingStep (x2 : Int) : gM Int :=
  g_X3_partingStep_5 x2 0 0
set_option maxRecDepth 20000 in
theorem r_X3_partingStep (x2 : Int) : gr (f_X3_partingStep 53 2 x2) (g_X3_partingStep x2) := by
  unfold f_X3_partingStep g_X3_partingStep
  exact r_X3_partingStep_5 _ _ _
def g_X11_parts (x1 : Int) : gM Int :=
  gbd (g_X8_hasKind x1) (fun v5 => gcz (v5) ((v5 = 0)) (gret ((-1))) (gbd (g_X3_partingStep x1) (fun v20 => gret (v20))))
set_option maxRecDepth 20000 in
theorem r_X11_parts (x1 : Int) : gr (f_X11_parts 1 x1) (g_X11_parts x1) := by
  unfold f_X11_parts g_X11_parts
  refine gr_gfp 1 2 (by decide) (by decide) rfl rfl (by decide) ?_
  refine gr_bd (gr_ob 2 (by decide) (by decide) rfl (r_X8_hasKind _)) (fun v5 => ?_)
  refine gr_cz ?_ ?_
  · exact gr_ret _
  · refine gr_gfp 1 53 (by decide) (by decide) rfl rfl (by decide) ?_
    refine gr_gfp 1 2 (by decide) (by decide) rfl rfl (by decide) ?_
    refine gr_bd (gr_ob 53 (by decide) (by decide) rfl (r_X3_partingStep _)) (fun v20 => ?_)
    exact gr_ret _
def g_X12_parts_149 (rec_25 : Int × Int × Int → gM Int) (x1 : Int) (x2 : Int) (x3 : Int) (x4 : Int) : gM Int :=
  glet ((x4 + 1)) (fun x4_149 => rec_25 (x2, x3, x4_149))
set_option maxRecDepth 20000 in
theorem r_X12_parts_149 (frec_25 : Int × Int × Int → hf_M Int) (rec_25 : Int × Int × Int → gM Int) (hrec_25 : ∀ s : Int × Int × Int, gr (frec_25 s) (rec_25 s)) (x1 : Int) (x2 : Int) (x3 : Int) (x4 : Int) : gr (f_X12_parts_149 frec_25 69 x1 x2 x3 x4) (g_X12_parts_149 rec_25 x1 x2 x3 x4) := by
  unfold f_X12_parts_149 g_X12_parts_149
  refine gr_let (fun x4_149 => ?_)
  exact hrec_25 _
def g_X12_parts_143 (rec_25 : Int × Int × Int → gM Int) (x1 : Int) (x4 : Int) (x5 : Int) : gM Int :=
  g_X12_parts_149 rec_25 x1 x4 x5 x4
set_option maxRecDepth 20000 in
theorem r_X12_parts_143 (frec_25 : Int × Int × Int → hf_M Int) (rec_25 : Int × Int × Int → gM Int) (hrec_25 : ∀ s : Int × Int × Int, gr (frec_25 s) (rec_25 s)) (x1 : Int) (x4 : Int) (x5 : Int) : gr (f_X12_parts_143 frec_25 69 x1 x4 x5) (g_X12_parts_143 rec_25 x1 x4 x5) := by
  unfold f_X12_parts_143 g_X12_parts_143
  exact r_X12_parts_149 frec_25 rec_25 hrec_25 _ _ _ _
def g_X12_parts_103 (rec_25 : Int × Int × Int → gM Int) (rec_43 : Int × Int × Int → gM Int) (x1 : Int) (x2 : Int) (x3 : Int) (x4 : Int) (x5 : Int) (x6 : Int) (x7 : Int) : gM Int :=
  glet ((x7 + 1)) (fun x7_103 => rec_43 (x5, x6, x7_103))
set_option maxRecDepth 20000 in
theorem r_X12_parts_103 (frec_25 : Int × Int × Int → hf_M Int) (rec_25 : Int × Int × Int → gM Int) (hrec_25 : ∀ s : Int × Int × Int, gr (frec_25 s) (rec_25 s)) (frec_43 : Int × Int × Int → hf_M Int) (rec_43 : Int × Int × Int → gM Int) (hrec_43 : ∀ s : Int × Int × Int, gr (frec_43 s) (rec_43 s)) (x1 : Int) (x2 : Int) (x3 : Int) (x4 : Int) (x5 : Int) (x6 : Int) (x7 : Int) : gr (f_X12_parts_103 frec_25 frec_43 69 x1 x2 x3 x4 x5 x6 x7) (g_X12_parts_103 rec_25 rec_43 x1 x2 x3 x4 x5 x6 x7) := by
  unfold f_X12_parts_103 g_X12_parts_103
  refine gr_let (fun x7_103 => ?_)
  exact hrec_43 _
def g_X12_parts_100 (rec_25 : Int × Int × Int → gM Int) (rec_43 : Int × Int × Int → gM Int) (x1 : Int) (x2 : Int) (x3 : Int) (x4 : Int) (x6 : Int) (x7 : Int) (s0 : Int) (s1 : Int) : gM Int :=
  glet ((s0 + s1)) (fun x5_101 => g_X12_parts_103 rec_25 rec_43 x1 x2 x3 x4 x5_101 x6 x7)
set_option maxRecDepth 20000 in
theorem r_X12_parts_100 (frec_25 : Int × Int × Int → hf_M Int) (rec_25 : Int × Int × Int → gM Int) (hrec_25 : ∀ s : Int × Int × Int, gr (frec_25 s) (rec_25 s)) (frec_43 : Int × Int × Int → hf_M Int) (rec_43 : Int × Int × Int → gM Int) (hrec_43 : ∀ s : Int × Int × Int, gr (frec_43 s) (rec_43 s)) (x1 : Int) (x2 : Int) (x3 : Int) (x4 : Int) (x6 : Int) (x7 : Int) (s0 : Int) (s1 : Int) : gr (f_X12_parts_100 frec_25 frec_43 69 x1 x2 x3 x4 x6 x7 s0 s1) (g_X12_parts_100 rec_25 rec_43 x1 x2 x3 x4 x6 x7 s0 s1) := by
  unfold f_X12_parts_100 g_X12_parts_100
  refine gr_let (fun x5_101 => ?_)
  exact r_X12_parts_103 frec_25 rec_25 hrec_25 frec_43 rec_43 hrec_43 _ _ _ _ _ _ _
def gB_X12_parts_43 (rec_25 : Int × Int × Int → gM Int) (x1 : Int) (x2 : Int) (x3 : Int) (x4 : Int) (rec_43 : Int × Int × Int → gM Int) (x5 : Int) (x6 : Int) (x7 : Int) : gM Int :=
  gget (-6903) (fun v46 => gcb (x7) (v46) ((v46 < x7)) (gck (hf_inI x5) (glet ((if (0 ≤ x5) then x5 else (-x5))) (fun w122 => gcz (x6) ((x6 = 0)) (g_X12_parts_149 rec_25 x1 x2 x3 x4) (gcb (x2) ((-1)) ((x2 = (-1))) (g_X12_parts_143 rec_25 x1 x4 w122) (gcb (w122) (x3) ((w122 < x3)) (g_X12_parts_143 rec_25 x1 x4 w122) (g_X12_parts_149 rec_25 x1 x2 x3 x4)))))) (gbd (g_X12_doubtOf x7) (fun v55 => gcz (v55) ((v55 ≤ 0)) (gck (hf_inI x4) (gbd (g_X12_breaks x7 x1 x4) (fun v76 => gcz (v76) ((v76 = 0)) (gal 74 41 (x7) (fun v98 => g_X12_parts_100 rec_25 rec_43 x1 x2 x3 x4 1 x7 x5 (-v98))) (gal 74 41 (x7) (fun v88 => g_X12_parts_100 rec_25 rec_43 x1 x2 x3 x4 1 x7 x5 v88))))) (g_X12_parts_103 rec_25 rec_43 x1 x2 x3 x4 x5 x6 x7))))
set_option maxRecDepth 20000 in
theorem rB_X12_parts_43 (frec_25 : Int × Int × Int → hf_M Int) (rec_25 : Int × Int × Int → gM Int) (hrec_25 : ∀ s : Int × Int × Int, gr (frec_25 s) (rec_25 s)) (x1 : Int) (x2 : Int) (x3 : Int) (x4 : Int) (frec_43 : Int × Int × Int → hf_M Int) (rec_43 : Int × Int × Int → gM Int) (hrec_43 : ∀ s : Int × Int × Int, gr (frec_43 s) (rec_43 s)) (x5 : Int) (x6 : Int) (x7 : Int) : gr (B_X12_parts_43 frec_25 69 x1 x2 x3 x4 frec_43 x5 x6 x7) (gB_X12_parts_43 rec_25 x1 x2 x3 x4 rec_43 x5 x6 x7) := by
  unfold B_X12_parts_43 gB_X12_parts_43
  refine gr_gf 69 (by decide) (by decide) rfl (by decide) rfl (fun v46 => ?_)
  refine gr_cb ?_ ?_
  · refine gr_ck (fun _ => ?_)
    refine gr_let (fun w122 => ?_)
    refine gr_cz ?_ ?_
    · exact r_X12_parts_149 frec_25 rec_25 hrec_25 _ _ _ _
    · refine gr_cb ?_ ?_
      · exact r_X12_parts_143 frec_25 rec_25 hrec_25 _ _ _
      · refine gr_cb ?_ ?_
        · exact r_X12_parts_143 frec_25 rec_25 hrec_25 _ _ _
        · exact r_X12_parts_149 frec_25 rec_25 hrec_25 _ _ _ _
  · refine gr_bd (gr_ob 69 (by decide) (by decide) rfl (r_X12_doubtOf _)) (fun v55 => ?_)
    refine gr_cz ?_ ?_
    · refine gr_ck (fun _ => ?_)
      refine gr_bd (gr_ob 69 (by decide) (by decide) rfl (r_X12_breaks _ _ _)) (fun v76 => ?_)
      refine gr_cz ?_ ?_
      · refine gr_gfp 69 74 (by decide) (by decide) rfl rfl (by decide) ?_
        refine gr_al 74 41 (by decide) (by decide) rfl (by decide) rfl (fun v98 => ?_)
        exact r_X12_parts_100 frec_25 rec_25 hrec_25 frec_43 rec_43 hrec_43 _ _ _ _ _ _ _ _
      · refine gr_gfp 69 74 (by decide) (by decide) rfl rfl (by decide) ?_
        refine gr_al 74 41 (by decide) (by decide) rfl (by decide) rfl (fun v88 => ?_)
        exact r_X12_parts_100 frec_25 rec_25 hrec_25 frec_43 rec_43 hrec_43 _ _ _ _ _ _ _ _
    · exact r_X12_parts_103 frec_25 rec_25 hrec_25 frec_43 rec_43 hrec_43 _ _ _ _ _ _ _
def g_X12_parts_43 (rec_25 : Int × Int × Int → gM Int) (x1 : Int) (x2 : Int) (x3 : Int) (x4 : Int) (x5 : Int) (x6 : Int) (x7 : Int) : gM Int :=
  gfx (fun rec s => gB_X12_parts_43 rec_25 x1 x2 x3 x4 rec s.1 s.2.1 s.2.2) hf_N (x5, x6, x7)
set_option maxRecDepth 20000 in
theorem r_X12_parts_43 (frec_25 : Int × Int × Int → hf_M Int) (rec_25 : Int × Int × Int → gM Int) (hrec_25 : ∀ s : Int × Int × Int, gr (frec_25 s) (rec_25 s)) (x1 : Int) (x2 : Int) (x3 : Int) (x4 : Int) (x5 : Int) (x6 : Int) (x7 : Int) : gr (f_X12_parts_43 frec_25 69 x1 x2 x3 x4 x5 x6 x7) (g_X12_parts_43 rec_25 x1 x2 x3 x4 x5 x6 x7) := by
  unfold f_X12_parts_43 g_X12_parts_43
  refine gr_fx (fun frec rec hrec s => ?_) _ _
  exact rB_X12_parts_43 _ _ hrec_25 _ _ _ _ _ _ hrec _ _ _
def gB_X12_parts_25 (x1 : Int) (rec_25 : Int × Int × Int → gM Int) (x2 : Int) (x3 : Int) (x4 : Int) : gM Int :=
  gget (-6903) (fun v28 => gcb (x4) (v28) ((v28 < x4)) (gret (x2)) (g_X12_parts_43 rec_25 x1 x2 x3 x4 0 0 0))
set_option maxRecDepth 20000 in
theorem rB_X12_parts_25 (x1 : Int) (frec_25 : Int × Int × Int → hf_M Int) (rec_25 : Int × Int × Int → gM Int) (hrec_25 : ∀ s : Int × Int × Int, gr (frec_25 s) (rec_25 s)) (x2 : Int) (x3 : Int) (x4 : Int) : gr (B_X12_parts_25 69 x1 frec_25 x2 x3 x4) (gB_X12_parts_25 x1 rec_25 x2 x3 x4) := by
  unfold B_X12_parts_25 gB_X12_parts_25
  refine gr_gf 69 (by decide) (by decide) rfl (by decide) rfl (fun v28 => ?_)
  refine gr_cb ?_ ?_
  · exact gr_ret _
  · exact r_X12_parts_43 frec_25 rec_25 hrec_25 _ _ _ _ _ _ _
def g_X12_parts_25 (x1 : Int) (x2 : Int) (x3 : Int) (x4 : Int) : gM Int :=
  gfx (fun rec s => gB_X12_parts_25 x1 rec s.1 s.2.1 s.2.2) hf_N (x2, x3, x4)
set_option maxRecDepth 20000 in
theorem r_X12_parts_25 (x1 : Int) (x2 : Int) (x3 : Int) (x4 : Int) : gr (f_X12_parts_25 69 x1 x2 x3 x4) (g_X12_parts_25 x1 x2 x3 x4) := by
  unfold f_X12_parts_25 g_X12_parts_25
  refine gr_fx (fun frec rec hrec s => ?_) _ _
  exact rB_X12_parts_25 _ _ _ hrec _ _ _
def g_X12_parts (x1 : Int) : gM Int :=
  gput (-6902) (0) (gbd (g_X12_isKind x1) (fun v6 => gcz (v6) ((¬ (v6 = 0))) (gbd (g_X12_layCounts) (fun _ => g_X12_parts_25 x1 (-1) 0 1)) (gret ((-1)))))
set_option maxRecDepth 20000 in
theorem r_X12_parts (x1 : Int) : gr (f_X12_parts 69 x1) (g_X12_parts x1) := by
  unfold f_X12_parts g_X12_parts
  refine gr_pf 69 (by decide) (by decide) rfl (by decide) (by decide) rfl rfl ?_
  refine gr_bd (r_X12_isKind _) (fun v6 => ?_)
  refine gr_cz ?_ ?_
  · refine gr_bd (gr_ob 69 (by decide) (by decide) rfl (r_X12_layCounts)) (fun _ => ?_)
    exact r_X12_parts_25 _ _ _ _
  · exact gr_ret _
def gB_X8_allWeights_4 (rec_4 : Int × Int → gM Int) (x1 : Int) (x2 : Int) : gM Int :=
  gget (-200) (fun v6 => gcb (x2) (v6) ((v6 < x2)) (gret (x1)) (gal 6 41 (x2) (fun v18 => glet ((x1 + v18)) (fun x1_20 => glet ((x2 + 1)) (fun x2_21 => rec_4 (x1_20, x2_21))))))
set_option maxRecDepth 20000 in
theorem rB_X8_allWeights_4 (frec_4 : Int × Int → hf_M Int) (rec_4 : Int × Int → gM Int) (hrec_4 : ∀ s : Int × Int, gr (frec_4 s) (rec_4 s)) (x1 : Int) (x2 : Int) : gr (B_X8_allWeights_4 2 frec_4 x1 x2) (gB_X8_allWeights_4 rec_4 x1 x2) := by
  unfold B_X8_allWeights_4 gB_X8_allWeights_4
  refine gr_gf 2 (by decide) (by decide) rfl (by decide) rfl (fun v6 => ?_)
  refine gr_cb ?_ ?_
  · exact gr_ret _
  · refine gr_gfp 2 6 (by decide) (by decide) rfl rfl (by decide) ?_
    refine gr_al 6 41 (by decide) (by decide) rfl (by decide) rfl (fun v18 => ?_)
    refine gr_let (fun x1_20 => ?_)
    refine gr_let (fun x2_21 => ?_)
    exact hrec_4 _
def g_X8_allWeights_4 (x1 : Int) (x2 : Int) : gM Int :=
  gfx (fun rec s => gB_X8_allWeights_4 rec s.1 s.2) hf_N (x1, x2)
set_option maxRecDepth 20000 in
theorem r_X8_allWeights_4 (x1 : Int) (x2 : Int) : gr (f_X8_allWeights_4 2 x1 x2) (g_X8_allWeights_4 x1 x2) := by
  unfold f_X8_allWeights_4 g_X8_allWeights_4
  refine gr_fx (fun frec rec hrec s => ?_) _ _
  exact rB_X8_allWeights_4 _ _ hrec _ _
def g_X8_allWeights  : gM Int :=
  g_X8_allWeights_4 0 0
set_option maxRecDepth 20000 in
theorem r_X8_allWeights  : gr (f_X8_allWeights 2) (g_X8_allWeights ) := by
  unfold f_X8_allWeights g_X8_allWeights
  exact r_X8_allWeights_4 _ _
def gB_X8_strengthBehind_4 (x1 : Int) (rec_4 : Int × Int → gM Int) (x2 : Int) (x3 : Int) : gM Int :=
  gget (-200) (fun v6 => gcb (x3) (v6) ((v6 < x3)) (gget (-200) (fun v35 => gret (v35))) (gal 6 41 (x3) (fun v18 => glet ((x2 + v18)) (fun x2_20 => gcb (x2_20) (x1) ((x2_20 ≤ x1)) (glet ((x3 + 1)) (fun x3_28 => rec_4 (x2_20, x3_28))) (gret (x3))))))
set_option maxRecDepth 20000 in
theorem rB_X8_strengthBehind_4 (x1 : Int) (frec_4 : Int × Int → hf_M Int) (rec_4 : Int × Int → gM Int) (hrec_4 : ∀ s : Int × Int, gr (frec_4 s) (rec_4 s)) (x2 : Int) (x3 : Int) : gr (B_X8_strengthBehind_4 2 x1 frec_4 x2 x3) (gB_X8_strengthBehind_4 x1 rec_4 x2 x3) := by
  unfold B_X8_strengthBehind_4 gB_X8_strengthBehind_4
  refine gr_gf 2 (by decide) (by decide) rfl (by decide) rfl (fun v6 => ?_)
  refine gr_cb ?_ ?_
  · refine gr_gf 2 (by decide) (by decide) rfl (by decide) rfl (fun v35 => ?_)
    exact gr_ret _
  · refine gr_gfp 2 6 (by decide) (by decide) rfl rfl (by decide) ?_
    refine gr_al 6 41 (by decide) (by decide) rfl (by decide) rfl (fun v18 => ?_)
    refine gr_let (fun x2_20 => ?_)
    refine gr_cb ?_ ?_
    · refine gr_let (fun x3_28 => ?_)
      exact hrec_4 _
    · exact gr_ret _
def g_X8_strengthBehind_4 (x1 : Int) (x2 : Int) (x3 : Int) : gM Int :=
  gfx (fun rec s => gB_X8_strengthBehind_4 x1 rec s.1 s.2) hf_N (x2, x3)
set_option maxRecDepth 20000 in
theorem r_X8_strengthBehind_4 (x1 : Int) (x2 : Int) (x3 : Int) : gr (f_X8_strengthBehind_4 2 x1 x2 x3) (g_X8_strengthBehind_4 x1 x2 x3) := by
  unfold f_X8_strengthBehind_4 g_X8_strengthBehind_4
  refine gr_fx (fun frec rec hrec s => ?_) _ _
  exact rB_X8_strengthBehind_4 _ _ _ hrec _ _
def g_X8_strengthBehind (x1 : Int) : gM Int :=
  g_X8_strengthBehind_4 x1 0 0
set_option maxRecDepth 20000 in
theorem r_X8_strengthBehind (x1 : Int) : gr (f_X8_strengthBehind 2 x1) (g_X8_strengthBehind x1) := by
  unfold f_X8_strengthBehind g_X8_strengthBehind
  exact r_X8_strengthBehind_4 _ _ _
def gB_X1_start_2_o61 (x2 : Int) (rec_2 : Int → gM Int) (x3 : Int) : gM Int :=
  gcb (x3) (3) ((3 ≤ x3)) (gput (-6108) (x2) (gput (-6109) (0) (gget (-200) (fun v37 => gput (-6110) (v37) (gput (-6111) (0) (gput (-6112) (0) (gput (-6113) (0) (gret (0))))))))) (gal 4 3 (x3) (fun v17 => gas 62 3 (x3) (v17) (glet ((x3 + 1)) (fun x3_19 => rec_2 x3_19))))
set_option maxRecDepth 20000 in
theorem rB_X1_start_2_o61 (x2 : Int) (frec_2 : Int → hf_M Int) (rec_2 : Int → gM Int) (hrec_2 : ∀ s : Int, gr (frec_2 s) (rec_2 s)) (x3 : Int) : gr (B_X1_start_2 61 2 x2 frec_2 x3) (gB_X1_start_2_o61 x2 rec_2 x3) := by
  unfold B_X1_start_2 gB_X1_start_2_o61
  refine gr_cb ?_ ?_
  · refine gr_pf 61 (by decide) (by decide) rfl (by decide) (by decide) rfl rfl ?_
    refine gr_pf 61 (by decide) (by decide) rfl (by decide) (by decide) rfl rfl ?_
    refine gr_gf 2 (by decide) (by decide) rfl (by decide) rfl (fun v37 => ?_)
    refine gr_pf 61 (by decide) (by decide) rfl (by decide) (by decide) rfl rfl ?_
    refine gr_pf 61 (by decide) (by decide) rfl (by decide) (by decide) rfl rfl ?_
    refine gr_pf 61 (by decide) (by decide) rfl (by decide) (by decide) rfl rfl ?_
    refine gr_pf 61 (by decide) (by decide) rfl (by decide) (by decide) rfl rfl ?_
    exact gr_ret _
  · refine gr_gfp 61 62 (by decide) (by decide) rfl rfl (by decide) ?_
    refine gr_gfp 2 4 (by decide) (by decide) rfl rfl (by decide) ?_
    refine gr_al 4 3 (by decide) (by decide) rfl (by decide) rfl (fun v17 => ?_)
    refine gr_as 62 3 (by decide) (by decide) rfl (by decide) rfl rfl ?_
    refine gr_let (fun x3_19 => ?_)
    exact hrec_2 _
def g_X1_start_2_o61 (x2 : Int) (x3 : Int) : gM Int :=
  gfx (fun rec s => gB_X1_start_2_o61 x2 rec s) hf_N x3
set_option maxRecDepth 20000 in
theorem r_X1_start_2_o61 (x2 : Int) (x3 : Int) : gr (f_X1_start_2 61 2 x2 x3) (g_X1_start_2_o61 x2 x3) := by
  unfold f_X1_start_2 g_X1_start_2_o61
  refine gr_fx (fun frec rec hrec s => ?_) _ _
  exact rB_X1_start_2_o61 _ _ _ hrec _
def g_X1_start_o61 (x2 : Int) : gM Int :=
  g_X1_start_2_o61 x2 0
set_option maxRecDepth 20000 in
theorem r_X1_start_o61 (x2 : Int) : gr (f_X1_start 61 2 x2) (g_X1_start_o61 x2) := by
  unfold f_X1_start g_X1_start_o61
  exact r_X1_start_2_o61 _ _
def g_X11_begin (x1 : Int) : gM Int :=
  gbd (g_X8_allWeights) (fun v4 => gcz (x1) ((x1 < 0)) (gret (0)) (gcz (v4) ((0 < v4)) (gck (hf_inI x1) (glet ((hf_andl ((x1 * 1103515245) + 12345) 2147483647)) (fun x3_32 => gdvl (x3_32) (65536) (fun v49 => gck (hf_inI v4) (grml (v49) (v4) (fun v52 => gbd (g_X8_strengthBehind v52) (fun v54 => gbd (g_X1_start_o61 v54) (fun _ => gput (-114) (1) (gret (1)))))))))) (gret (0))))
set_option maxRecDepth 20000 in
theorem r_X11_begin (x1 : Int) : gr (f_X11_begin 1 x1) (g_X11_begin x1) := by
  unfold f_X11_begin g_X11_begin
  refine gr_gfp 1 2 (by decide) (by decide) rfl rfl (by decide) ?_
  refine gr_bd (gr_ob 2 (by decide) (by decide) rfl (r_X8_allWeights)) (fun v4 => ?_)
  refine gr_cz ?_ ?_
  · exact gr_ret _
  · refine gr_cz ?_ ?_
    · refine gr_ck (fun _ => ?_)
      refine gr_let (fun x3_32 => ?_)
      refine gr_gfp 1 61 (by decide) (by decide) rfl rfl (by decide) ?_
      refine gr_gfp 1 2 (by decide) (by decide) rfl rfl (by decide) ?_
      refine gr_gfp 1 2 (by decide) (by decide) rfl rfl (by decide) ?_
      refine gr_dvl (fun v49 => ?_)
      refine gr_ck (fun _ => ?_)
      refine gr_rml (fun v52 => ?_)
      refine gr_bd (gr_ob 2 (by decide) (by decide) rfl (r_X8_strengthBehind _)) (fun v54 => ?_)
      refine gr_bd (gr_ob 61 (by decide) (by decide) rfl (r_X1_start_o61 _)) (fun _ => ?_)
      refine gr_pf 1 (by decide) (by decide) rfl (by decide) (by decide) rfl rfl ?_
      exact gr_ret _
    · exact gr_ret _
def gB_X12_weightsOf_5 (x2 : Int) (rec_5 : Int × Int → gM Int) (x3 : Int) (x4 : Int) : gM Int :=
  gcb (x4) (x2) ((x2 < x4)) (gret (x3)) (gal 74 41 (x4) (fun v18 => glet ((x3 + v18)) (fun x3_20 => glet ((x4 + 1)) (fun x4_21 => rec_5 (x3_20, x4_21)))))
set_option maxRecDepth 20000 in
theorem rB_X12_weightsOf_5 (x2 : Int) (frec_5 : Int × Int → hf_M Int) (rec_5 : Int × Int → gM Int) (hrec_5 : ∀ s : Int × Int, gr (frec_5 s) (rec_5 s)) (x3 : Int) (x4 : Int) : gr (B_X12_weightsOf_5 69 x2 frec_5 x3 x4) (gB_X12_weightsOf_5 x2 rec_5 x3 x4) := by
  unfold B_X12_weightsOf_5 gB_X12_weightsOf_5
  refine gr_cb ?_ ?_
  · exact gr_ret _
  · refine gr_gfp 69 74 (by decide) (by decide) rfl rfl (by decide) ?_
    refine gr_al 74 41 (by decide) (by decide) rfl (by decide) rfl (fun v18 => ?_)
    refine gr_let (fun x3_20 => ?_)
    refine gr_let (fun x4_21 => ?_)
    exact hrec_5 _
def g_X12_weightsOf_5 (x2 : Int) (x3 : Int) (x4 : Int) : gM Int :=
  gfx (fun rec s => gB_X12_weightsOf_5 x2 rec s.1 s.2) hf_N (x3, x4)
set_option maxRecDepth 20000 in
theorem r_X12_weightsOf_5 (x2 : Int) (x3 : Int) (x4 : Int) : gr (f_X12_weightsOf_5 69 x2 x3 x4) (g_X12_weightsOf_5 x2 x3 x4) := by
  unfold f_X12_weightsOf_5 g_X12_weightsOf_5
  refine gr_fx (fun frec rec hrec s => ?_) _ _
  exact rB_X12_weightsOf_5 _ _ _ hrec _ _
def g_X12_weightsOf (x1 : Int) (x2 : Int) : gM Int :=
  g_X12_weightsOf_5 x2 0 x1
set_option maxRecDepth 20000 in
theorem r_X12_weightsOf (x1 : Int) (x2 : Int) : gr (f_X12_weightsOf 69 x1 x2) (g_X12_weightsOf x1 x2) := by
  unfold f_X12_weightsOf g_X12_weightsOf
  exact r_X12_weightsOf_5 _ _ _
def gB_X12_begin_56 (x5 : Int) (rec_56 : Unit → gM Int) : gM Int :=
  gget (-6964) (fun v59 => gbd (g_X12_weightsOf 0 v59) (fun v62 => gcb (v62) (x5) ((x5 < v62)) (gput (-6963) (1) (gput (-6965) (0) (gret (1)))) (gget (-6964) (fun v72 => gput (-6964) ((v72 + 1)) (rec_56 ())))))
set_option maxRecDepth 20000 in
theorem rB_X12_begin_56 (x5 : Int) (frec_56 : Unit → hf_M Int) (rec_56 : Unit → gM Int) (hrec_56 : ∀ s : Unit, gr (frec_56 s) (rec_56 s)) : gr (B_X12_begin_56 69 x5 frec_56) (gB_X12_begin_56 x5 rec_56) := by
  unfold B_X12_begin_56 gB_X12_begin_56
  refine gr_gf 69 (by decide) (by decide) rfl (by decide) rfl (fun v59 => ?_)
  refine gr_bd (gr_ob 69 (by decide) (by decide) rfl (r_X12_weightsOf _ _)) (fun v62 => ?_)
  refine gr_cb ?_ ?_
  · refine gr_pf 69 (by decide) (by decide) rfl (by decide) (by decide) rfl rfl ?_
    refine gr_pf 69 (by decide) (by decide) rfl (by decide) (by decide) rfl rfl ?_
    exact gr_ret _
  · refine gr_gf 69 (by decide) (by decide) rfl (by decide) rfl (fun v72 => ?_)
    refine gr_pf 69 (by decide) (by decide) rfl (by decide) (by decide) rfl rfl ?_
    exact hrec_56 _
def g_X12_begin_56 (x5 : Int) : gM Int :=
  gfx (fun rec s => gB_X12_begin_56 x5 rec) hf_N ()
set_option maxRecDepth 20000 in
theorem r_X12_begin_56 (x5 : Int) : gr (f_X12_begin_56 69 x5) (g_X12_begin_56 x5) := by
  unfold f_X12_begin_56 g_X12_begin_56
  refine gr_fx (fun frec rec hrec s => ?_) _ _
  exact rB_X12_begin_56 _ _ _ hrec
def g_X12_begin (x1 : Int) : gM Int :=
  gput (-6902) (0) (gget (-6903) (fun v8 => gbd (g_X12_weightsOf 0 v8) (fun v11 => gcz (x1) ((x1 < 0)) (gret (0)) (gcz (v11) ((¬ (v11 = 0))) (gck (hf_inI x1) (glet ((hf_andl ((x1 * 1103515245) + 12345) 2147483647)) (fun x3_39 => gdvl (x3_39) (65536) (fun v44 => gck (hf_inI v11) (grml (v44) (v11) (fun v47 => gput (-6964) (0) (g_X12_begin_56 v47))))))) (gret (0))))))
set_option maxRecDepth 20000 in
theorem r_X12_begin (x1 : Int) : gr (f_X12_begin 69 x1) (g_X12_begin x1) := by
  unfold f_X12_begin g_X12_begin
  refine gr_pf 69 (by decide) (by decide) rfl (by decide) (by decide) rfl rfl ?_
  refine gr_gf 69 (by decide) (by decide) rfl (by decide) rfl (fun v8 => ?_)
  refine gr_bd (gr_ob 69 (by decide) (by decide) rfl (r_X12_weightsOf _ _)) (fun v11 => ?_)
  refine gr_cz ?_ ?_
  · exact gr_ret _
  · refine gr_cz ?_ ?_
    · refine gr_ck (fun _ => ?_)
      refine gr_let (fun x3_39 => ?_)
      refine gr_dvl (fun v44 => ?_)
      refine gr_ck (fun _ => ?_)
      refine gr_rml (fun v47 => ?_)
      refine gr_pf 69 (by decide) (by decide) rfl (by decide) (by decide) rfl rfl ?_
      exact r_X12_begin_56 _
    · exact gr_ret _
def g_X1_canFall_o61 (x2 : Int) (x3 : Int) : gM Int :=
  gbd (g_X8_hasKind x2) (fun v2 => gcz (v2) ((v2 = 0)) (gret (0)) (gbd (g_X8_hasStep x3) (fun v10 => gcz (v10) ((v10 = 0)) (gret (0)) (gal 62 3 (x2) (fun v21 => gcz (v21) ((v21 ≤ 0)) (gret (0)) (gget (-6111) (fun v26 => gcb (v26) (100) ((100 ≤ v26)) (gret (0)) (gret (1)))))))))
set_option maxRecDepth 20000 in
theorem r_X1_canFall_o61 (x2 : Int) (x3 : Int) : gr (f_X1_canFall 61 2 x2 x3) (g_X1_canFall_o61 x2 x3) := by
  unfold f_X1_canFall g_X1_canFall_o61
  refine gr_bd (gr_ob 2 (by decide) (by decide) rfl (r_X8_hasKind _)) (fun v2 => ?_)
  refine gr_cz ?_ ?_
  · exact gr_ret _
  · refine gr_bd (gr_ob 2 (by decide) (by decide) rfl (r_X8_hasStep _)) (fun v10 => ?_)
    refine gr_cz ?_ ?_
    · exact gr_ret _
    · refine gr_gfp 61 62 (by decide) (by decide) rfl rfl (by decide) ?_
      refine gr_al 62 3 (by decide) (by decide) rfl (by decide) rfl (fun v21 => ?_)
      refine gr_cz ?_ ?_
      · exact gr_ret _
      · refine gr_gf 61 (by decide) (by decide) rfl (by decide) rfl (fun v26 => ?_)
        refine gr_gfp 61 100 (by decide) (by decide) rfl rfl (by decide) ?_
        refine gr_cb ?_ ?_
        · exact gr_ret _
        · exact gr_ret _
def g_X1_letFall_166_o61 (x2 : Int) (x3 : Int) (x4 : Int) : gM Int :=
  gget (-6113) (fun v168 => gbd (g_X8_costOf x2 x3 x4) (fun v176 => gput (-6113) ((v168 + v176)) (gck ((x4 = 0) ∨ (x4 = 1)) (gret (x4)))))
set_option maxRecDepth 20000 in
theorem r_X1_letFall_166_o61 (x2 : Int) (x3 : Int) (x4 : Int) : gr (f_X1_letFall_166 61 2 x2 x3 x4) (g_X1_letFall_166_o61 x2 x3 x4) := by
  unfold f_X1_letFall_166 g_X1_letFall_166_o61
  refine gr_gf 61 (by decide) (by decide) rfl (by decide) rfl (fun v168 => ?_)
  refine gr_bd (gr_ob 2 (by decide) (by decide) rfl (r_X8_costOf _ _ _)) (fun v176 => ?_)
  refine gr_pf 61 (by decide) (by decide) rfl (by decide) (by decide) rfl rfl ?_
  refine gr_ck (fun _ => ?_)
  exact gr_ret _
def g_X1_letFall_o61 (x2 : Int) (x3 : Int) : gM Int :=
  gget (-6108) (fun v4 => gbd (g_X8_breaks x2 x3 v4) (fun v7 => gget (-6111) (fun v17 => gas 63 100 (v17) (x2) (gget (-6111) (fun v27 => gas 64 100 (v27) (x3) (gget (-6111) (fun v37 => gck (hf_inI v7) (glet ((if (v7 = 0) then 0 else 1)) (fun w50 => gas 65 100 (v37) (w50) (gget (-6111) (fun v56 => gget (-6109) (fun v60 => gas 66 100 (v56) (v60) (gget (-6111) (fun v69 => gget (-6110) (fun v73 => gas 67 100 (v69) (v73) (gget (-6111) (fun v82 => gget (-6113) (fun v86 => gas 68 100 (v82) (v86) (gget (-6111) (fun v92 => gput (-6111) ((v92 + 1)) (gal 3 3 (x2) (fun v106 => glet ((x3 - v106)) (fun x5_108 => gcz (v7) ((v7 = 0)) (gget (-6109) (fun v155 => gck ((hf_inI v155) ∧ (hf_inI x5_108)) (glet ((max v155 x5_108)) (fun v160 => gput (-6109) (v160) (g_X1_letFall_166_o61 x2 x3 v7))))) (gget (-6110) (fun v117 => gck ((hf_inI v117) ∧ (hf_inI (x5_108 - 1))) (glet ((min v117 (x5_108 - 1))) (fun v124 => gput (-6110) (v124) (gal 62 3 (x2) (fun v136 => gas 62 3 (x2) ((v136 - 1)) (gget (-6112) (fun v142 => gput (-6112) ((v142 + 1)) (g_X1_letFall_166_o61 x2 x3 v7))))))))))))))))))))))))))))))))
set_option maxRecDepth 20000 in
theorem r_X1_letFall_o61 (x2 : Int) (x3 : Int) : gr (f_X1_letFall 61 2 x2 x3) (g_X1_letFall_o61 x2 x3) := by
  unfold f_X1_letFall g_X1_letFall_o61
  refine gr_gf 61 (by decide) (by decide) rfl (by decide) rfl (fun v4 => ?_)
  refine gr_bd (gr_ob 2 (by decide) (by decide) rfl (r_X8_breaks _ _ _)) (fun v7 => ?_)
  refine gr_gfp 61 63 (by decide) (by decide) rfl rfl (by decide) ?_
  refine gr_gf 61 (by decide) (by decide) rfl (by decide) rfl (fun v17 => ?_)
  refine gr_as 63 100 (by decide) (by decide) rfl (by decide) rfl rfl ?_
  refine gr_gfp 61 64 (by decide) (by decide) rfl rfl (by decide) ?_
  refine gr_gf 61 (by decide) (by decide) rfl (by decide) rfl (fun v27 => ?_)
  refine gr_as 64 100 (by decide) (by decide) rfl (by decide) rfl rfl ?_
  refine gr_gfp 61 65 (by decide) (by decide) rfl rfl (by decide) ?_
  refine gr_gf 61 (by decide) (by decide) rfl (by decide) rfl (fun v37 => ?_)
  refine gr_ck (fun _ => ?_)
  refine gr_let (fun w50 => ?_)
  refine gr_as 65 100 (by decide) (by decide) rfl (by decide) rfl rfl ?_
  refine gr_gfp 61 66 (by decide) (by decide) rfl rfl (by decide) ?_
  refine gr_gf 61 (by decide) (by decide) rfl (by decide) rfl (fun v56 => ?_)
  refine gr_gf 61 (by decide) (by decide) rfl (by decide) rfl (fun v60 => ?_)
  refine gr_as 66 100 (by decide) (by decide) rfl (by decide) rfl rfl ?_
  refine gr_gfp 61 67 (by decide) (by decide) rfl rfl (by decide) ?_
  refine gr_gf 61 (by decide) (by decide) rfl (by decide) rfl (fun v69 => ?_)
  refine gr_gf 61 (by decide) (by decide) rfl (by decide) rfl (fun v73 => ?_)
  refine gr_as 67 100 (by decide) (by decide) rfl (by decide) rfl rfl ?_
  refine gr_gfp 61 68 (by decide) (by decide) rfl rfl (by decide) ?_
  refine gr_gf 61 (by decide) (by decide) rfl (by decide) rfl (fun v82 => ?_)
  refine gr_gf 61 (by decide) (by decide) rfl (by decide) rfl (fun v86 => ?_)
  refine gr_as 68 100 (by decide) (by decide) rfl (by decide) rfl rfl ?_
  refine gr_gf 61 (by decide) (by decide) rfl (by decide) rfl (fun v92 => ?_)
  refine gr_pf 61 (by decide) (by decide) rfl (by decide) (by decide) rfl rfl ?_
  refine gr_gfp 2 3 (by decide) (by decide) rfl rfl (by decide) ?_
  refine gr_al 3 3 (by decide) (by decide) rfl (by decide) rfl (fun v106 => ?_)
  refine gr_let (fun x5_108 => ?_)
  refine gr_cz ?_ ?_
  · refine gr_gf 61 (by decide) (by decide) rfl (by decide) rfl (fun v155 => ?_)
    refine gr_ck (fun _ => ?_)
    refine gr_let (fun v160 => ?_)
    refine gr_pf 61 (by decide) (by decide) rfl (by decide) (by decide) rfl rfl ?_
    exact r_X1_letFall_166_o61 _ _ _
  · refine gr_gf 61 (by decide) (by decide) rfl (by decide) rfl (fun v117 => ?_)
    refine gr_ck (fun _ => ?_)
    refine gr_let (fun v124 => ?_)
    refine gr_pf 61 (by decide) (by decide) rfl (by decide) (by decide) rfl rfl ?_
    refine gr_gfp 61 62 (by decide) (by decide) rfl rfl (by decide) ?_
    refine gr_al 62 3 (by decide) (by decide) rfl (by decide) rfl (fun v136 => ?_)
    refine gr_as 62 3 (by decide) (by decide) rfl (by decide) rfl rfl ?_
    refine gr_gf 61 (by decide) (by decide) rfl (by decide) rfl (fun v142 => ?_)
    refine gr_pf 61 (by decide) (by decide) rfl (by decide) (by decide) rfl rfl ?_
    exact r_X1_letFall_166_o61 _ _ _
def g_X11_drop (x1 : Int) (x2 : Int) : gM Int :=
  gget (-114) (fun v1 => gcz (v1) ((v1 = 0)) (gret ((-1))) (gbd (g_X1_canFall_o61 x1 x2) (fun v17 => gcz (v17) ((¬ (v17 = 0))) (gbd (g_X1_letFall_o61 x1 x2) (fun v35 => gck (hf_inI v35) (glet ((if (v35 = 0) then 1 else 2)) (fun w46 => gret (w46))))) (gret ((-1))))))
set_option maxRecDepth 20000 in
theorem r_X11_drop (x1 : Int) (x2 : Int) : gr (f_X11_drop 1 x1 x2) (g_X11_drop x1 x2) := by
  unfold f_X11_drop g_X11_drop
  refine gr_gf 1 (by decide) (by decide) rfl (by decide) rfl (fun v1 => ?_)
  refine gr_cz ?_ ?_
  · exact gr_ret _
  · refine gr_gfp 1 61 (by decide) (by decide) rfl rfl (by decide) ?_
    refine gr_gfp 1 2 (by decide) (by decide) rfl rfl (by decide) ?_
    refine gr_bd (gr_ob 61 (by decide) (by decide) rfl (r_X1_canFall_o61 _ _)) (fun v17 => ?_)
    refine gr_cz ?_ ?_
    · refine gr_gfp 1 61 (by decide) (by decide) rfl rfl (by decide) ?_
      refine gr_gfp 1 2 (by decide) (by decide) rfl rfl (by decide) ?_
      refine gr_bd (gr_ob 61 (by decide) (by decide) rfl (r_X1_letFall_o61 _ _)) (fun v35 => ?_)
      refine gr_ck (fun _ => ?_)
      refine gr_let (fun w46 => ?_)
      exact gr_ret _
    · exact gr_ret _
def g_X12_leftNow_52 (rec_9 : Int × Int → gM Int) (x1 : Int) (x3 : Int) (s0 : Int) (s1 : Int) : gM Int :=
  glet ((s0 - s1)) (fun x2_53 => glet ((x3 + 1)) (fun x3_54 => rec_9 (x2_53, x3_54)))
set_option maxRecDepth 20000 in
theorem r_X12_leftNow_52 (frec_9 : Int × Int → hf_M Int) (rec_9 : Int × Int → gM Int) (hrec_9 : ∀ s : Int × Int, gr (frec_9 s) (rec_9 s)) (x1 : Int) (x3 : Int) (s0 : Int) (s1 : Int) : gr (f_X12_leftNow_52 frec_9 69 x1 x3 s0 s1) (g_X12_leftNow_52 rec_9 x1 x3 s0 s1) := by
  unfold f_X12_leftNow_52 g_X12_leftNow_52
  refine gr_let (fun x2_53 => ?_)
  refine gr_let (fun x3_54 => ?_)
  exact hrec_9 _
def gB_X12_leftNow_9 (x1 : Int) (rec_9 : Int × Int → gM Int) (x2 : Int) (x3 : Int) : gM Int :=
  gget (-6965) (fun v11 => gcb (x3) (v11) ((v11 ≤ x3)) (gret (x2)) (gal 101 100 (x3) (fun v23 => gcb (v23) (x1) ((¬ (v23 = x1))) (g_X12_leftNow_52 rec_9 x1 x3 x2 0) (gget (-6964) (fun v30 => gal 102 100 (x3) (fun v39 => gck (hf_inI v39) (gbd (g_X12_breaks v30 x1 v39) (fun v41 => gcz (v41) ((v41 = 0)) (g_X12_leftNow_52 rec_9 x1 x3 x2 0) (g_X12_leftNow_52 rec_9 x1 x3 x2 1)))))))))
set_option maxRecDepth 20000 in
theorem rB_X12_leftNow_9 (x1 : Int) (frec_9 : Int × Int → hf_M Int) (rec_9 : Int × Int → gM Int) (hrec_9 : ∀ s : Int × Int, gr (frec_9 s) (rec_9 s)) (x2 : Int) (x3 : Int) : gr (B_X12_leftNow_9 69 x1 frec_9 x2 x3) (gB_X12_leftNow_9 x1 rec_9 x2 x3) := by
  unfold B_X12_leftNow_9 gB_X12_leftNow_9
  refine gr_gf 69 (by decide) (by decide) rfl (by decide) rfl (fun v11 => ?_)
  refine gr_cb ?_ ?_
  · exact gr_ret _
  · refine gr_gfp 69 101 (by decide) (by decide) rfl rfl (by decide) ?_
    refine gr_al 101 100 (by decide) (by decide) rfl (by decide) rfl (fun v23 => ?_)
    refine gr_cb ?_ ?_
    · exact r_X12_leftNow_52 frec_9 rec_9 hrec_9 _ _ _ _
    · refine gr_gf 69 (by decide) (by decide) rfl (by decide) rfl (fun v30 => ?_)
      refine gr_gfp 69 102 (by decide) (by decide) rfl rfl (by decide) ?_
      refine gr_al 102 100 (by decide) (by decide) rfl (by decide) rfl (fun v39 => ?_)
      refine gr_ck (fun _ => ?_)
      refine gr_bd (gr_ob 69 (by decide) (by decide) rfl (r_X12_breaks _ _ _)) (fun v41 => ?_)
      refine gr_cz ?_ ?_
      · exact r_X12_leftNow_52 frec_9 rec_9 hrec_9 _ _ _ _
      · exact r_X12_leftNow_52 frec_9 rec_9 hrec_9 _ _ _ _
def g_X12_leftNow_9 (x1 : Int) (x2 : Int) (x3 : Int) : gM Int :=
  gfx (fun rec s => gB_X12_leftNow_9 x1 rec s.1 s.2) hf_N (x2, x3)
set_option maxRecDepth 20000 in
theorem r_X12_leftNow_9 (x1 : Int) (x2 : Int) (x3 : Int) : gr (f_X12_leftNow_9 69 x1 x2 x3) (g_X12_leftNow_9 x1 x2 x3) := by
  unfold f_X12_leftNow_9 g_X12_leftNow_9
  refine gr_fx (fun frec rec hrec s => ?_) _ _
  exact rB_X12_leftNow_9 _ _ _ hrec _ _
def g_X12_leftNow (x1 : Int) : gM Int :=
  gal 72 3 (x1) (fun v5 => g_X12_leftNow_9 x1 v5 0)
set_option maxRecDepth 20000 in
theorem r_X12_leftNow (x1 : Int) : gr (f_X12_leftNow 69 x1) (g_X12_leftNow x1) := by
  unfold f_X12_leftNow g_X12_leftNow
  refine gr_gfp 69 72 (by decide) (by decide) rfl rfl (by decide) ?_
  refine gr_al 72 3 (by decide) (by decide) rfl (by decide) rfl (fun v5 => ?_)
  exact r_X12_leftNow_9 _ _ _
def g_X12_drop_105 (x3 : Int) (s1 : Int) (s2 : Int) (s3 : Int) : gM Int :=
  gas 103 100 (s1) ((s2 + s3)) (gget (-6965) (fun v109 => gput (-6965) ((v109 + 1)) (gck (hf_inI x3) (glet ((if (x3 = 0) then 1 else 2)) (fun w126 => gret (w126))))))
set_option maxRecDepth 20000 in
theorem r_X12_drop_105 (x3 : Int) (s1 : Int) (s2 : Int) (s3 : Int) : gr (f_X12_drop_105 69 x3 103 s1 s2 s3) (g_X12_drop_105 x3 s1 s2 s3) := by
  unfold f_X12_drop_105 g_X12_drop_105
  refine gr_as 103 100 (by decide) (by decide) rfl (by decide) rfl rfl ?_
  refine gr_gf 69 (by decide) (by decide) rfl (by decide) rfl (fun v109 => ?_)
  refine gr_pf 69 (by decide) (by decide) rfl (by decide) (by decide) rfl rfl ?_
  refine gr_ck (fun _ => ?_)
  refine gr_let (fun w126 => ?_)
  exact gr_ret _
def g_X12_drop (x1 : Int) (x2 : Int) : gM Int :=
  gput (-6902) (0) (gget (-6963) (fun v6 => gcz (v6) ((v6 = 0)) (gret ((-1))) (gget (-6965) (fun v13 => gcb (v13) (100) ((v13 = 100)) (gret ((-1))) (gbd (g_X12_isKind x1) (fun v22 => gcz (v22) ((v22 = 0)) (gret ((-1))) (gbd (g_X12_isStep x2) (fun v30 => gcz (v30) ((v30 = 0)) (gret ((-1))) (gbd (g_X12_leftNow x1) (fun v38 => gcz (v38) ((¬ (v38 = 0))) (gget (-6964) (fun v48 => gck (hf_inI x2) (gbd (g_X12_breaks v48 x1 x2) (fun v54 => gget (-6965) (fun v63 => gas 101 100 (v63) (x1) (gget (-6965) (fun v73 => gas 102 100 (v73) (x2) (gget (-6965) (fun v83 => gbd (g_X12_costOf x2) (fun v88 => gcz (v54) ((v54 = 0)) (g_X12_drop_105 v54 v83 v88 0) (gal 73 3 (x1) (fun v100 => g_X12_drop_105 v54 v83 v88 v100)))))))))))) (gret ((-1)))))))))))))
set_option maxRecDepth 20000 in
theorem r_X12_drop (x1 : Int) (x2 : Int) : gr (f_X12_drop 69 x1 x2) (g_X12_drop x1 x2) := by
  unfold f_X12_drop g_X12_drop
  refine gr_pf 69 (by decide) (by decide) rfl (by decide) (by decide) rfl rfl ?_
  refine gr_gf 69 (by decide) (by decide) rfl (by decide) rfl (fun v6 => ?_)
  refine gr_cz ?_ ?_
  · exact gr_ret _
  · refine gr_gf 69 (by decide) (by decide) rfl (by decide) rfl (fun v13 => ?_)
    refine gr_cb ?_ ?_
    · exact gr_ret _
    · refine gr_bd (r_X12_isKind _) (fun v22 => ?_)
      refine gr_cz ?_ ?_
      · exact gr_ret _
      · refine gr_bd (gr_ob 69 (by decide) (by decide) rfl (r_X12_isStep _)) (fun v30 => ?_)
        refine gr_cz ?_ ?_
        · exact gr_ret _
        · refine gr_bd (gr_ob 69 (by decide) (by decide) rfl (r_X12_leftNow _)) (fun v38 => ?_)
          refine gr_cz ?_ ?_
          · refine gr_gf 69 (by decide) (by decide) rfl (by decide) rfl (fun v48 => ?_)
            refine gr_ck (fun _ => ?_)
            refine gr_bd (gr_ob 69 (by decide) (by decide) rfl (r_X12_breaks _ _ _)) (fun v54 => ?_)
            refine gr_gfp 69 101 (by decide) (by decide) rfl rfl (by decide) ?_
            refine gr_gf 69 (by decide) (by decide) rfl (by decide) rfl (fun v63 => ?_)
            refine gr_as 101 100 (by decide) (by decide) rfl (by decide) rfl rfl ?_
            refine gr_gfp 69 102 (by decide) (by decide) rfl rfl (by decide) ?_
            refine gr_gf 69 (by decide) (by decide) rfl (by decide) rfl (fun v73 => ?_)
            refine gr_as 102 100 (by decide) (by decide) rfl (by decide) rfl rfl ?_
            refine gr_gfp 69 103 (by decide) (by decide) rfl rfl (by decide) ?_
            refine gr_gf 69 (by decide) (by decide) rfl (by decide) rfl (fun v83 => ?_)
            refine gr_bd (gr_ob 69 (by decide) (by decide) rfl (r_X12_costOf _)) (fun v88 => ?_)
            refine gr_cz ?_ ?_
            · exact r_X12_drop_105 _ _ _ _
            · refine gr_gfp 69 73 (by decide) (by decide) rfl rfl (by decide) ?_
              refine gr_al 73 3 (by decide) (by decide) rfl (by decide) rfl (fun v100 => ?_)
              exact r_X12_drop_105 _ _ _ _
          · exact gr_ret _
def g_X1_takeBack_o61  : gM Int :=
  gget (-6111) (fun v1 => gcz (v1) ((v1 ≤ 0)) (gret (0)) (gget (-6111) (fun v9 => gput (-6111) ((v9 - 1)) (gget (-6111) (fun v23 => gal 66 100 (v23) (fun v26 => gput (-6109) (v26) (gget (-6111) (fun v36 => gal 67 100 (v36) (fun v39 => gput (-6110) (v39) (gget (-6111) (fun v49 => gal 68 100 (v49) (fun v52 => gput (-6113) (v52) (gget (-6111) (fun v65 => gal 63 100 (v65) (fun v68 => gal 62 3 (v68) (fun v70 => gget (-6111) (fun v76 => gal 65 100 (v76) (fun v79 => gas 62 3 (v68) ((v70 + v79)) (gget (-6112) (fun v84 => gget (-6111) (fun v92 => gal 65 100 (v92) (fun v95 => gput (-6112) ((v84 - v95)) (gret (0))))))))))))))))))))))))
set_option maxRecDepth 20000 in
theorem r_X1_takeBack_o61  : gr (f_X1_takeBack 61) (g_X1_takeBack_o61 ) := by
  unfold f_X1_takeBack g_X1_takeBack_o61
  refine gr_gf 61 (by decide) (by decide) rfl (by decide) rfl (fun v1 => ?_)
  refine gr_cz ?_ ?_
  · exact gr_ret _
  · refine gr_gf 61 (by decide) (by decide) rfl (by decide) rfl (fun v9 => ?_)
    refine gr_pf 61 (by decide) (by decide) rfl (by decide) (by decide) rfl rfl ?_
    refine gr_gfp 61 66 (by decide) (by decide) rfl rfl (by decide) ?_
    refine gr_gf 61 (by decide) (by decide) rfl (by decide) rfl (fun v23 => ?_)
    refine gr_al 66 100 (by decide) (by decide) rfl (by decide) rfl (fun v26 => ?_)
    refine gr_pf 61 (by decide) (by decide) rfl (by decide) (by decide) rfl rfl ?_
    refine gr_gfp 61 67 (by decide) (by decide) rfl rfl (by decide) ?_
    refine gr_gf 61 (by decide) (by decide) rfl (by decide) rfl (fun v36 => ?_)
    refine gr_al 67 100 (by decide) (by decide) rfl (by decide) rfl (fun v39 => ?_)
    refine gr_pf 61 (by decide) (by decide) rfl (by decide) (by decide) rfl rfl ?_
    refine gr_gfp 61 68 (by decide) (by decide) rfl rfl (by decide) ?_
    refine gr_gf 61 (by decide) (by decide) rfl (by decide) rfl (fun v49 => ?_)
    refine gr_al 68 100 (by decide) (by decide) rfl (by decide) rfl (fun v52 => ?_)
    refine gr_pf 61 (by decide) (by decide) rfl (by decide) (by decide) rfl rfl ?_
    refine gr_gfp 61 62 (by decide) (by decide) rfl rfl (by decide) ?_
    refine gr_gfp 61 63 (by decide) (by decide) rfl rfl (by decide) ?_
    refine gr_gf 61 (by decide) (by decide) rfl (by decide) rfl (fun v65 => ?_)
    refine gr_al 63 100 (by decide) (by decide) rfl (by decide) rfl (fun v68 => ?_)
    refine gr_al 62 3 (by decide) (by decide) rfl (by decide) rfl (fun v70 => ?_)
    refine gr_gfp 61 65 (by decide) (by decide) rfl rfl (by decide) ?_
    refine gr_gf 61 (by decide) (by decide) rfl (by decide) rfl (fun v76 => ?_)
    refine gr_al 65 100 (by decide) (by decide) rfl (by decide) rfl (fun v79 => ?_)
    refine gr_as 62 3 (by decide) (by decide) rfl (by decide) rfl rfl ?_
    refine gr_gf 61 (by decide) (by decide) rfl (by decide) rfl (fun v84 => ?_)
    refine gr_gfp 61 65 (by decide) (by decide) rfl rfl (by decide) ?_
    refine gr_gf 61 (by decide) (by decide) rfl (by decide) rfl (fun v92 => ?_)
    refine gr_al 65 100 (by decide) (by decide) rfl (by decide) rfl (fun v95 => ?_)
    refine gr_pf 61 (by decide) (by decide) rfl (by decide) (by decide) rfl rfl ?_
    exact gr_ret _
def g_X11_back  : gM Int :=
  gget (-114) (fun v1 => gcz (v1) ((v1 = 0)) (gret ((-1))) (gget (-6111) (fun v11 => gcz (v11) ((¬ (v11 = 0))) (gbd (g_X1_takeBack_o61) (fun _ => gget (-6111) (fun v30 => gret (v30)))) (gret ((-1))))))
set_option maxRecDepth 20000 in
theorem r_X11_back  : gr (f_X11_back 1) (g_X11_back ) := by
  unfold f_X11_back g_X11_back
  refine gr_gf 1 (by decide) (by decide) rfl (by decide) rfl (fun v1 => ?_)
  refine gr_cz ?_ ?_
  · exact gr_ret _
  · refine gr_gfp 1 61 (by decide) (by decide) rfl rfl (by decide) ?_
    refine gr_gf 61 (by decide) (by decide) rfl (by decide) rfl (fun v11 => ?_)
    refine gr_cz ?_ ?_
    · refine gr_gfp 1 61 (by decide) (by decide) rfl rfl (by decide) ?_
      refine gr_bd (gr_ob 61 (by decide) (by decide) rfl (r_X1_takeBack_o61)) (fun _ => ?_)
      refine gr_gfp 1 61 (by decide) (by decide) rfl rfl (by decide) ?_
      refine gr_gf 61 (by decide) (by decide) rfl (by decide) rfl (fun v30 => ?_)
      exact gr_ret _
    · exact gr_ret _
def g_X12_back  : gM Int :=
  gput (-6902) (0) (gget (-6963) (fun v6 => gcz (v6) ((v6 = 0)) (gret ((-1))) (gget (-6965) (fun v13 => gcz (v13) ((¬ (v13 = 0))) (gget (-6965) (fun v23 => gput (-6965) ((v23 - 1)) (gget (-6965) (fun v32 => gret (v32))))) (gret ((-1)))))))
set_option maxRecDepth 20000 in
theorem r_X12_back  : gr (f_X12_back 69) (g_X12_back ) := by
  unfold f_X12_back g_X12_back
  refine gr_pf 69 (by decide) (by decide) rfl (by decide) (by decide) rfl rfl ?_
  refine gr_gf 69 (by decide) (by decide) rfl (by decide) rfl (fun v6 => ?_)
  refine gr_cz ?_ ?_
  · exact gr_ret _
  · refine gr_gf 69 (by decide) (by decide) rfl (by decide) rfl (fun v13 => ?_)
    refine gr_cz ?_ ?_
    · refine gr_gf 69 (by decide) (by decide) rfl (by decide) rfl (fun v23 => ?_)
      refine gr_pf 69 (by decide) (by decide) rfl (by decide) (by decide) rfl rfl ?_
      refine gr_gf 69 (by decide) (by decide) rfl (by decide) rfl (fun v32 => ?_)
      exact gr_ret _
    · exact gr_ret _
def g_X1_leftCode_o61  : gM Int :=
  gal 62 3 (0) (fun v5 => gal 62 3 (1) (fun v12 => gal 62 3 (2) (fun v22 => gret (((v5 + (5 * v12)) + (25 * v22))))))
set_option maxRecDepth 20000 in
theorem r_X1_leftCode_o61  : gr (f_X1_leftCode 61) (g_X1_leftCode_o61 ) := by
  unfold f_X1_leftCode g_X1_leftCode_o61
  refine gr_gfp 61 62 (by decide) (by decide) rfl rfl (by decide) ?_
  refine gr_al 62 3 (by decide) (by decide) rfl (by decide) rfl (fun v5 => ?_)
  refine gr_gfp 61 62 (by decide) (by decide) rfl rfl (by decide) ?_
  refine gr_al 62 3 (by decide) (by decide) rfl (by decide) rfl (fun v12 => ?_)
  refine gr_gfp 61 62 (by decide) (by decide) rfl rfl (by decide) ?_
  refine gr_al 62 3 (by decide) (by decide) rfl (by decide) rfl (fun v22 => ?_)
  exact gr_ret _
def g_X11_now (x1 : Int) : gM Int :=
  gget (-114) (fun v1 => gcz (v1) ((¬ (v1 = 0))) (gck (hf_inI x1) (git ((x1 = 0)) (gget (-6109) (fun v52 => gret (v52))) (git ((x1 = 1)) (gget (-6110) (fun v60 => gret (v60))) (git ((x1 = 2)) (gget (-6111) (fun v68 => gret (v68))) (git ((x1 = 3)) (gbd (g_X1_leftCode_o61) (fun v76 => gret (v76))) (git ((x1 = 4)) (gget (-6113) (fun v84 => gret (v84))) (git ((x1 = 5)) (gget (-6108) (fun v92 => gret (v92))) (gret ((-1)))))))))) (gret ((-1))))
set_option maxRecDepth 20000 in
theorem r_X11_now (x1 : Int) : gr (f_X11_now 1 x1) (g_X11_now x1) := by
  unfold f_X11_now g_X11_now
  refine gr_gf 1 (by decide) (by decide) rfl (by decide) rfl (fun v1 => ?_)
  refine gr_cz ?_ ?_
  · refine gr_ck (fun _ => ?_)
    refine gr_it ?_ ?_
    · refine gr_gfp 1 61 (by decide) (by decide) rfl rfl (by decide) ?_
      refine gr_gf 61 (by decide) (by decide) rfl (by decide) rfl (fun v52 => ?_)
      exact gr_ret _
    · refine gr_it ?_ ?_
      · refine gr_gfp 1 61 (by decide) (by decide) rfl rfl (by decide) ?_
        refine gr_gf 61 (by decide) (by decide) rfl (by decide) rfl (fun v60 => ?_)
        exact gr_ret _
      · refine gr_it ?_ ?_
        · refine gr_gfp 1 61 (by decide) (by decide) rfl rfl (by decide) ?_
          refine gr_gf 61 (by decide) (by decide) rfl (by decide) rfl (fun v68 => ?_)
          exact gr_ret _
        · refine gr_it ?_ ?_
          · refine gr_gfp 1 61 (by decide) (by decide) rfl rfl (by decide) ?_
            refine gr_bd (gr_ob 61 (by decide) (by decide) rfl (r_X1_leftCode_o61)) (fun v76 => ?_)
            exact gr_ret _
          · refine gr_it ?_ ?_
            · refine gr_gfp 1 61 (by decide) (by decide) rfl rfl (by decide) ?_
              refine gr_gf 61 (by decide) (by decide) rfl (by decide) rfl (fun v84 => ?_)
              exact gr_ret _
            · refine gr_it ?_ ?_
              · refine gr_gfp 1 61 (by decide) (by decide) rfl rfl (by decide) ?_
                refine gr_gf 61 (by decide) (by decide) rfl (by decide) rfl (fun v92 => ?_)
                exact gr_ret _
              · exact gr_ret _
  · exact gr_ret _
def g_X12_bound_114 (rec_15 : Int × Int → gM Int) (x1 : Int) (x2 : Int) (x3 : Int) : gM Int :=
  glet ((x3 + 1)) (fun x3_114 => rec_15 (x2, x3_114))
set_option maxRecDepth 20000 in
theorem r_X12_bound_114 (frec_15 : Int × Int → hf_M Int) (rec_15 : Int × Int → gM Int) (hrec_15 : ∀ s : Int × Int, gr (frec_15 s) (rec_15 s)) (x1 : Int) (x2 : Int) (x3 : Int) : gr (f_X12_bound_114 frec_15 69 x1 x2 x3) (g_X12_bound_114 rec_15 x1 x2 x3) := by
  unfold f_X12_bound_114 g_X12_bound_114
  refine gr_let (fun x3_114 => ?_)
  exact hrec_15 _
def g_X12_bound_92 (rec_15 : Int × Int → gM Int) (x1 : Int) (x2 : Int) (x3 : Int) (x4 : Int) (x5 : Int) : gM Int :=
  gcz (x1) ((¬ (x1 = 0))) (g_X12_bound_114 rec_15 x1 x2 x3) (gcz (x5) ((¬ (x5 = 0))) (g_X12_bound_114 rec_15 x1 x2 x3) (gck ((hf_inI x4) ∧ (hf_inI x2)) (glet ((if (x4 ≤ x2) then x2 else x4)) (fun w113 => g_X12_bound_114 rec_15 x1 w113 x3))))
set_option maxRecDepth 20000 in
theorem r_X12_bound_92 (frec_15 : Int × Int → hf_M Int) (rec_15 : Int × Int → gM Int) (hrec_15 : ∀ s : Int × Int, gr (frec_15 s) (rec_15 s)) (x1 : Int) (x2 : Int) (x3 : Int) (x4 : Int) (x5 : Int) : gr (f_X12_bound_92 frec_15 69 x1 x2 x3 x4 x5) (g_X12_bound_92 rec_15 x1 x2 x3 x4 x5) := by
  unfold f_X12_bound_92 g_X12_bound_92
  refine gr_cz ?_ ?_
  · exact r_X12_bound_114 frec_15 rec_15 hrec_15 _ _ _
  · refine gr_cz ?_ ?_
    · exact r_X12_bound_114 frec_15 rec_15 hrec_15 _ _ _
    · refine gr_ck (fun _ => ?_)
      refine gr_let (fun w113 => ?_)
      exact r_X12_bound_114 frec_15 rec_15 hrec_15 _ _ _
def gB_X12_bound_15 (x1 : Int) (rec_15 : Int × Int → gM Int) (x2 : Int) (x3 : Int) : gM Int :=
  gget (-6965) (fun v17 => gcb (x3) (v17) ((v17 ≤ x3)) (gret (x2)) (gal 102 100 (x3) (fun v28 => gal 101 100 (x3) (fun v38 => gal 71 3 (v38) (fun v39 => glet ((v28 - v39)) (fun x4_41 => gget (-6964) (fun v45 => gal 101 100 (x3) (fun v53 => gal 102 100 (x3) (fun v59 => gck (hf_inI v59) (gbd (g_X12_breaks v45 v53 v59) (fun v61 => gcz (x1) ((x1 = 0)) (g_X12_bound_92 rec_15 x1 x2 x3 x4_41 v61) (gcz (v61) ((v61 = 0)) (g_X12_bound_92 rec_15 x1 x2 x3 x4_41 v61) (gck ((hf_inI (x4_41 - 1)) ∧ (hf_inI x2)) (glet ((if (x2 ≤ (x4_41 - 1)) then x2 else (x4_41 - 1))) (fun w91 => g_X12_bound_92 rec_15 x1 w91 x3 x4_41 v61)))))))))))))))
set_option maxRecDepth 20000 in
theorem rB_X12_bound_15 (x1 : Int) (frec_15 : Int × Int → hf_M Int) (rec_15 : Int × Int → gM Int) (hrec_15 : ∀ s : Int × Int, gr (frec_15 s) (rec_15 s)) (x2 : Int) (x3 : Int) : gr (B_X12_bound_15 69 x1 frec_15 x2 x3) (gB_X12_bound_15 x1 rec_15 x2 x3) := by
  unfold B_X12_bound_15 gB_X12_bound_15
  refine gr_gf 69 (by decide) (by decide) rfl (by decide) rfl (fun v17 => ?_)
  refine gr_cb ?_ ?_
  · exact gr_ret _
  · refine gr_gfp 69 102 (by decide) (by decide) rfl rfl (by decide) ?_
    refine gr_al 102 100 (by decide) (by decide) rfl (by decide) rfl (fun v28 => ?_)
    refine gr_gfp 69 71 (by decide) (by decide) rfl rfl (by decide) ?_
    refine gr_gfp 69 101 (by decide) (by decide) rfl rfl (by decide) ?_
    refine gr_al 101 100 (by decide) (by decide) rfl (by decide) rfl (fun v38 => ?_)
    refine gr_al 71 3 (by decide) (by decide) rfl (by decide) rfl (fun v39 => ?_)
    refine gr_let (fun x4_41 => ?_)
    refine gr_gf 69 (by decide) (by decide) rfl (by decide) rfl (fun v45 => ?_)
    refine gr_gfp 69 101 (by decide) (by decide) rfl rfl (by decide) ?_
    refine gr_al 101 100 (by decide) (by decide) rfl (by decide) rfl (fun v53 => ?_)
    refine gr_gfp 69 102 (by decide) (by decide) rfl rfl (by decide) ?_
    refine gr_al 102 100 (by decide) (by decide) rfl (by decide) rfl (fun v59 => ?_)
    refine gr_ck (fun _ => ?_)
    refine gr_bd (gr_ob 69 (by decide) (by decide) rfl (r_X12_breaks _ _ _)) (fun v61 => ?_)
    refine gr_cz ?_ ?_
    · exact r_X12_bound_92 frec_15 rec_15 hrec_15 _ _ _ _ _
    · refine gr_cz ?_ ?_
      · exact r_X12_bound_92 frec_15 rec_15 hrec_15 _ _ _ _ _
      · refine gr_ck (fun _ => ?_)
        refine gr_let (fun w91 => ?_)
        exact r_X12_bound_92 frec_15 rec_15 hrec_15 _ _ _ _ _
def g_X12_bound_15 (x1 : Int) (x2 : Int) (x3 : Int) : gM Int :=
  gfx (fun rec s => gB_X12_bound_15 x1 rec s.1 s.2) hf_N (x2, x3)
set_option maxRecDepth 20000 in
theorem r_X12_bound_15 (x1 : Int) (x2 : Int) (x3 : Int) : gr (f_X12_bound_15 69 x1 x2 x3) (g_X12_bound_15 x1 x2 x3) := by
  unfold f_X12_bound_15 g_X12_bound_15
  refine gr_fx (fun frec rec hrec s => ?_) _ _
  exact rB_X12_bound_15 _ _ _ hrec _ _
def g_X12_bound_12 (x1 : Int) (s0 : Int) : gM Int :=
  g_X12_bound_15 x1 s0 0
set_option maxRecDepth 20000 in
theorem r_X12_bound_12 (x1 : Int) (s0 : Int) : gr (f_X12_bound_12 69 x1 s0) (g_X12_bound_12 x1 s0) := by
  unfold f_X12_bound_12 g_X12_bound_12
  exact r_X12_bound_15 _ _ _
def g_X12_bound (x1 : Int) : gM Int :=
  gcz (x1) ((x1 = 0)) (g_X12_bound_12 x1 0) (gget (-6903) (fun v5 => g_X12_bound_12 x1 v5))
set_option maxRecDepth 20000 in
theorem r_X12_bound (x1 : Int) : gr (f_X12_bound 69 x1) (g_X12_bound x1) := by
  unfold f_X12_bound g_X12_bound
  refine gr_cz ?_ ?_
  · exact r_X12_bound_12 _ _
  · refine gr_gf 69 (by decide) (by decide) rfl (by decide) rfl (fun v5 => ?_)
    exact r_X12_bound_12 _ _
def gB_X12_now_98 (rec_98 : Int × Int → gM Int) (x2 : Int) (x3 : Int) : gM Int :=
  gget (-6965) (fun v100 => gcb (x3) (v100) ((v100 ≤ x3)) (gret (x2)) (gal 103 100 (x3) (fun v112 => glet ((x2 + v112)) (fun x2_114 => glet ((x3 + 1)) (fun x3_115 => rec_98 (x2_114, x3_115))))))
set_option maxRecDepth 20000 in
theorem rB_X12_now_98 (frec_98 : Int × Int → hf_M Int) (rec_98 : Int × Int → gM Int) (hrec_98 : ∀ s : Int × Int, gr (frec_98 s) (rec_98 s)) (x2 : Int) (x3 : Int) : gr (B_X12_now_98 69 frec_98 x2 x3) (gB_X12_now_98 rec_98 x2 x3) := by
  unfold B_X12_now_98 gB_X12_now_98
  refine gr_gf 69 (by decide) (by decide) rfl (by decide) rfl (fun v100 => ?_)
  refine gr_cb ?_ ?_
  · exact gr_ret _
  · refine gr_gfp 69 103 (by decide) (by decide) rfl rfl (by decide) ?_
    refine gr_al 103 100 (by decide) (by decide) rfl (by decide) rfl (fun v112 => ?_)
    refine gr_let (fun x2_114 => ?_)
    refine gr_let (fun x3_115 => ?_)
    exact hrec_98 _
def g_X12_now_98 (x2 : Int) (x3 : Int) : gM Int :=
  gfx (fun rec s => gB_X12_now_98 rec s.1 s.2) hf_N (x2, x3)
set_option maxRecDepth 20000 in
theorem r_X12_now_98 (x2 : Int) (x3 : Int) : gr (f_X12_now_98 69 x2 x3) (g_X12_now_98 x2 x3) := by
  unfold f_X12_now_98 g_X12_now_98
  refine gr_fx (fun frec rec hrec s => ?_) _ _
  exact rB_X12_now_98 _ _ hrec _ _
def g_X12_now (x1 : Int) : gM Int :=
  gput (-6902) (0) (gget (-6963) (fun v6 => gcz (v6) ((¬ (v6 = 0))) (gck (hf_inI x1) (git ((x1 = 0)) (gbd (g_X12_bound 0) (fun v58 => gret (v58))) (git ((x1 = 1)) (gbd (g_X12_bound 1) (fun v64 => gret (v64))) (git ((x1 = 2)) (gget (-6965) (fun v69 => gret (v69))) (git ((x1 = 3)) (gbd (g_X12_leftNow 0) (fun v75 => gbd (g_X12_leftNow 1) (fun v81 => gbd (g_X12_leftNow 2) (fun v90 => gret (((v75 + (5 * v81)) + (25 * v90))))))) (git ((x1 = 4)) (g_X12_now_98 0 0) (git ((x1 = 5)) (gget (-6964) (fun v124 => gret (v124))) (gret ((-1)))))))))) (gret ((-1)))))
set_option maxRecDepth 20000 in
theorem r_X12_now (x1 : Int) : gr (f_X12_now 69 x1) (g_X12_now x1) := by
  unfold f_X12_now g_X12_now
  refine gr_pf 69 (by decide) (by decide) rfl (by decide) (by decide) rfl rfl ?_
  refine gr_gf 69 (by decide) (by decide) rfl (by decide) rfl (fun v6 => ?_)
  refine gr_cz ?_ ?_
  · refine gr_ck (fun _ => ?_)
    refine gr_it ?_ ?_
    · refine gr_bd (gr_ob 69 (by decide) (by decide) rfl (r_X12_bound _)) (fun v58 => ?_)
      exact gr_ret _
    · refine gr_it ?_ ?_
      · refine gr_bd (gr_ob 69 (by decide) (by decide) rfl (r_X12_bound _)) (fun v64 => ?_)
        exact gr_ret _
      · refine gr_it ?_ ?_
        · refine gr_gf 69 (by decide) (by decide) rfl (by decide) rfl (fun v69 => ?_)
          exact gr_ret _
        · refine gr_it ?_ ?_
          · refine gr_bd (gr_ob 69 (by decide) (by decide) rfl (r_X12_leftNow _)) (fun v75 => ?_)
            refine gr_bd (gr_ob 69 (by decide) (by decide) rfl (r_X12_leftNow _)) (fun v81 => ?_)
            refine gr_bd (gr_ob 69 (by decide) (by decide) rfl (r_X12_leftNow _)) (fun v90 => ?_)
            exact gr_ret _
          · refine gr_it ?_ ?_
            · exact r_X12_now_98 _ _
            · refine gr_it ?_ ?_
              · refine gr_gf 69 (by decide) (by decide) rfl (by decide) rfl (fun v124 => ?_)
                exact gr_ret _
              · exact gr_ret _
  · exact gr_ret _
def g_X11_count (x1 : Int) : gM Int :=
  gck (hf_inI x1) (git ((x1 = 0)) (gget (-200) (fun v48 => gret (v48))) (git ((x1 = 1)) (gget (-104) (fun v53 => gck (v53 = 18 ∨ v53 = 23) (gget (-(100 * v53 + 0)) (fun v56 => gret (v56))))) (git ((x1 = 2)) (gget (-104) (fun v61 => gck (v61 = 18 ∨ v61 = 23) (gget (-(100 * v61 + 1)) (fun v64 => gret (v64))))) (git ((x1 = 3)) (gget (-5300) (fun v72 => gret (v72))) (git ((x1 = 4)) (gget (-204) (fun v80 => gret (v80))) (git ((x1 = 5)) (gget (-205) (fun v88 => gret (v88))) (git ((x1 = 6)) (gbd (g_X8_allWeights) (fun v96 => gret (v96))) (gret ((-1))))))))))
set_option maxRecDepth 20000 in
theorem r_X11_count (x1 : Int) : gr (f_X11_count 1 x1) (g_X11_count x1) := by
  unfold f_X11_count g_X11_count
  refine gr_ck (fun _ => ?_)
  refine gr_it ?_ ?_
  · refine gr_gfp 1 2 (by decide) (by decide) rfl rfl (by decide) ?_
    refine gr_gf 2 (by decide) (by decide) rfl (by decide) rfl (fun v48 => ?_)
    exact gr_ret _
  · refine gr_it ?_ ?_
    · refine gr_gf 1 (by decide) (by decide) rfl (by decide) rfl (fun v53 => ?_)
      refine gr_gfps (by decide) rfl (fun hp v56 => ?_)
      exact gr_ret _
    · refine gr_it ?_ ?_
      · refine gr_gf 1 (by decide) (by decide) rfl (by decide) rfl (fun v61 => ?_)
        refine gr_gfps (by decide) rfl (fun hp v64 => ?_)
        exact gr_ret _
      · refine gr_it ?_ ?_
        · refine gr_gfp 1 53 (by decide) (by decide) rfl rfl (by decide) ?_
          refine gr_gf 53 (by decide) (by decide) rfl (by decide) rfl (fun v72 => ?_)
          exact gr_ret _
        · refine gr_it ?_ ?_
          · refine gr_gfp 1 2 (by decide) (by decide) rfl rfl (by decide) ?_
            refine gr_gf 2 (by decide) (by decide) rfl (by decide) rfl (fun v80 => ?_)
            exact gr_ret _
          · refine gr_it ?_ ?_
            · refine gr_gfp 1 2 (by decide) (by decide) rfl rfl (by decide) ?_
              refine gr_gf 2 (by decide) (by decide) rfl (by decide) rfl (fun v88 => ?_)
              exact gr_ret _
            · refine gr_it ?_ ?_
              · refine gr_gfp 1 2 (by decide) (by decide) rfl rfl (by decide) ?_
                refine gr_bd (gr_ob 2 (by decide) (by decide) rfl (r_X8_allWeights)) (fun v96 => ?_)
                exact gr_ret _
              · exact gr_ret _
def g_X12_count (x1 : Int) : gM Int :=
  gput (-6902) (0) (gck (hf_inI x1) (git ((x1 = 0)) (gget (-6903) (fun v49 => gret (v49))) (git ((x1 = 1)) (gget (-6919) (fun v54 => gret (v54))) (git ((x1 = 2)) (gget (-6920) (fun v59 => gret (v59))) (git ((x1 = 3)) (gget (-6957) (fun v64 => gret (v64))) (git ((x1 = 4)) (gget (-6908) (fun v69 => gret (v69))) (git ((x1 = 5)) (gget (-6909) (fun v74 => gret (v74))) (git ((x1 = 6)) (gget (-6903) (fun v81 => gbd (g_X12_weightsOf 0 v81) (fun v84 => gret (v84)))) (gret ((-1)))))))))))
set_option maxRecDepth 20000 in
theorem r_X12_count (x1 : Int) : gr (f_X12_count 69 x1) (g_X12_count x1) := by
  unfold f_X12_count g_X12_count
  refine gr_pf 69 (by decide) (by decide) rfl (by decide) (by decide) rfl rfl ?_
  refine gr_ck (fun _ => ?_)
  refine gr_it ?_ ?_
  · refine gr_gf 69 (by decide) (by decide) rfl (by decide) rfl (fun v49 => ?_)
    exact gr_ret _
  · refine gr_it ?_ ?_
    · refine gr_gf 69 (by decide) (by decide) rfl (by decide) rfl (fun v54 => ?_)
      exact gr_ret _
    · refine gr_it ?_ ?_
      · refine gr_gf 69 (by decide) (by decide) rfl (by decide) rfl (fun v59 => ?_)
        exact gr_ret _
      · refine gr_it ?_ ?_
        · refine gr_gf 69 (by decide) (by decide) rfl (by decide) rfl (fun v64 => ?_)
          exact gr_ret _
        · refine gr_it ?_ ?_
          · refine gr_gf 69 (by decide) (by decide) rfl (by decide) rfl (fun v69 => ?_)
            exact gr_ret _
          · refine gr_it ?_ ?_
            · refine gr_gf 69 (by decide) (by decide) rfl (by decide) rfl (fun v74 => ?_)
              exact gr_ret _
            · refine gr_it ?_ ?_
              · refine gr_gf 69 (by decide) (by decide) rfl (by decide) rfl (fun v81 => ?_)
                refine gr_bd (gr_ob 69 (by decide) (by decide) rfl (r_X12_weightsOf _ _)) (fun v84 => ?_)
                exact gr_ret _
              · exact gr_ret _
def gB_L_law_23 (rec_23 : Int → gM Int) (x4 : Int) : gM Int :=
  gsn (fun v26 => gcb (x4) ((v26 - 6)) (((v26 - 6) < x4)) (gret (1)) (gsg (x4) (fun v36 => gck (hf_inI (hf_and v36 31)) (git (((hf_and v36 31) = 0)) (gsg ((x4 + 1)) (fun v182 => gsg ((x4 + 2)) (fun v188 => gsg ((x4 + 3)) (fun v194 => gsg ((x4 + 4)) (fun v200 => gsg ((x4 + 5)) (fun v206 => gbd (g_X11_feed v182 v188 v194 v200 v206) (fun v207 => gsg ((x4 + 1)) (fun v216 => gsg ((x4 + 2)) (fun v222 => gsg ((x4 + 3)) (fun v228 => gsg ((x4 + 4)) (fun v234 => gsg ((x4 + 5)) (fun v240 => gbd (g_X12_feed v216 v222 v228 v234 v240) (fun v241 => gcb (v207) (v241) ((v207 = v241)) (g_L_law_1265 rec_23 x4) (gret (0))))))))))))))) (git (((hf_and v36 31) = 1)) (gsg ((x4 + 1)) (fun v255 => gbd (g_X11_stair v255) (fun v256 => gsg ((x4 + 1)) (fun v265 => gbd (g_X12_stair v265) (fun v266 => gcb (v256) (v266) ((v256 = v266)) (g_L_law_1265 rec_23 x4) (gret (0))))))) (git (((hf_and v36 31) = 2)) (gsg ((x4 + 1)) (fun v280 => gsg ((x4 + 2)) (fun v286 => gsg ((x4 + 3)) (fun v292 => gsg ((x4 + 4)) (fun v298 => gbd (g_X11_kind v280 v286 v292 v298) (fun v299 => gsg ((x4 + 1)) (fun v308 => gsg ((x4 + 2)) (fun v314 => gsg ((x4 + 3)) (fun v320 => gsg ((x4 + 4)) (fun v326 => gbd (g_X12_kind v308 v314 v320 v326) (fun v327 => gcb (v299) (v327) ((v299 = v327)) (g_L_law_1265 rec_23 x4) (gret (0))))))))))))) (git (((hf_and v36 31) = 3)) (gsg ((x4 + 1)) (fun v341 => gsg ((x4 + 2)) (fun v347 => gbd (g_X11_cost v341 v347) (fun v348 => gsg ((x4 + 1)) (fun v357 => gsg ((x4 + 2)) (fun v363 => gbd (g_X12_cost v357 v363) (fun v364 => gcb (v348) (v364) ((v348 = v364)) (g_L_law_1265 rec_23 x4) (gret (0))))))))) (git (((hf_and v36 31) = 4)) (gsg ((x4 + 1)) (fun v378 => gsg ((x4 + 2)) (fun v384 => gbd (g_X11_weight v378 v384) (fun v385 => gsg ((x4 + 1)) (fun v394 => gsg ((x4 + 2)) (fun v400 => gbd (g_X12_weight v394 v400) (fun v401 => gcb (v385) (v401) ((v385 = v401)) (g_L_law_1265 rec_23 x4) (gret (0))))))))) (git (((hf_and v36 31) = 5)) (gsg ((x4 + 1)) (fun v415 => gsg ((x4 + 2)) (fun v421 => gbd (g_L_look v415 v421) (fun v423 => gsg ((x4 + 1)) (fun v434 => gsg ((x4 + 2)) (fun v440 => gbd (g_X12_look v434 v440) (fun v441 => gbd (g_X12_thrown) (fun v447 => gcb (v447) (v423) ((v447 = v423)) (gcz (v423) ((¬ (v423 = 0))) (g_L_law_1265 rec_23 x4) (gal 104 1 (0) (fun v464 => gck (hf_inI v441) (gcl (v464) (v441) ((v464 = v441)) (g_L_law_1265 rec_23 x4) (gret (0)))))) (gret (0)))))))))) (git (((hf_and v36 31) = 6)) (gsg ((x4 + 1)) (fun v483 => gbd (g_X11_likely v483) (fun v484 => gsg ((x4 + 1)) (fun v493 => gbd (g_X12_likely v493) (fun v494 => gcb (v484) (v494) ((v484 = v494)) (g_L_law_1265 rec_23 x4) (gret (0))))))) (git (((hf_and v36 31) = 7)) (gsg ((x4 + 1)) (fun v508 => gbd (g_X11_plan v508) (fun v509 => gsg ((x4 + 1)) (fun v518 => gbd (g_X12_plan v518) (fun v519 => gcb (v509) (v519) ((v509 = v519)) (g_L_law_1265 rec_23 x4) (gret (0))))))) (git (((hf_and v36 31) = 8)) (gsg ((x4 + 1)) (fun v533 => gbd (g_X11_fault v533) (fun v534 => gsg ((x4 + 1)) (fun v543 => gbd (g_X12_fault v543) (fun v544 => gcb (v534) (v544) ((v534 = v544)) (g_L_law_1265 rec_23 x4) (gret (0))))))) (git (((hf_and v36 31) = 9)) (gsg ((x4 + 1)) (fun v558 => gsg ((x4 + 2)) (fun v564 => gbd (g_X11_tried v558 v564) (fun v565 => gsg ((x4 + 1)) (fun v574 => gsg ((x4 + 2)) (fun v580 => gbd (g_X12_tried v574 v580) (fun v581 => gcl (v565) (v581) ((v565 = v581)) (g_L_law_1265 rec_23 x4) (gret (0))))))))) (git (((hf_and v36 31) = 10)) (gsg ((x4 + 1)) (fun v596 => gsg ((x4 + 2)) (fun v602 => gsg ((x4 + 3)) (fun v608 => gbd (g_X11_fall v596 v602 v608) (fun v609 => gsg ((x4 + 1)) (fun v618 => gsg ((x4 + 2)) (fun v624 => gsg ((x4 + 3)) (fun v630 => gbd (g_X12_fall v618 v624 v630) (fun v631 => gcb (v609) (v631) ((v609 = v631)) (g_L_law_1265 rec_23 x4) (gret (0))))))))))) (git (((hf_and v36 31) = 11)) (gsg ((x4 + 1)) (fun v645 => gbd (g_X11_judge v645) (fun v646 => gsg ((x4 + 1)) (fun v655 => gbd (g_X12_judge v655) (fun v656 => gcl (v646) (v656) ((v646 = v656)) (g_L_law_1265 rec_23 x4) (gret (0))))))) (git (((hf_and v36 31) = 12)) (gsg ((x4 + 1)) (fun v671 => gbd (g_X11_best v671) (fun v672 => gsg ((x4 + 1)) (fun v681 => gbd (g_X12_best v681) (fun v682 => gcl (v672) (v682) ((v672 = v682)) (g_L_law_1265 rec_23 x4) (gret (0))))))) (git (((hf_and v36 31) = 13)) (gsg ((x4 + 1)) (fun v697 => gsg ((x4 + 2)) (fun v703 => gsg ((x4 + 3)) (fun v709 => gsg ((x4 + 4)) (fun v715 => gsg ((x4 + 5)) (fun v721 => gbd (g_X11_next v697 v703 v709 v715 v721) (fun v722 => gsg ((x4 + 1)) (fun v731 => gsg ((x4 + 2)) (fun v737 => gsg ((x4 + 3)) (fun v743 => gsg ((x4 + 4)) (fun v749 => gsg ((x4 + 5)) (fun v755 => gbd (g_X12_next v731 v737 v743 v749 v755) (fun v756 => gcl (v722) (v756) ((v722 = v756)) (g_L_law_1265 rec_23 x4) (gret (0))))))))))))))) (git (((hf_and v36 31) = 14)) (gsg ((x4 + 1)) (fun v771 => gsg ((x4 + 2)) (fun v777 => gbd (g_X11_edge v771 v777) (fun v778 => gsg ((x4 + 1)) (fun v787 => gsg ((x4 + 2)) (fun v793 => gbd (g_X12_edge v787 v793) (fun v794 => gcb (v778) (v794) ((v778 = v794)) (g_L_law_1265 rec_23 x4) (gret (0))))))))) (git (((hf_and v36 31) = 15)) (gsg ((x4 + 1)) (fun v808 => gsg ((x4 + 2)) (fun v814 => gbd (g_X11_weak v808 v814) (fun v815 => gsg ((x4 + 1)) (fun v824 => gsg ((x4 + 2)) (fun v830 => gbd (g_X12_weak v824 v830) (fun v831 => gcb (v815) (v831) ((v815 = v831)) (g_L_law_1265 rec_23 x4) (gret (0))))))))) (git (((hf_and v36 31) = 16)) (gsg ((x4 + 1)) (fun v845 => gsg ((x4 + 2)) (fun v851 => gbd (g_X11_rounds v845 v851) (fun v852 => gsg ((x4 + 1)) (fun v861 => gsg ((x4 + 2)) (fun v867 => gbd (g_X12_rounds v861 v867) (fun v868 => gcb (v852) (v868) ((v852 = v868)) (g_L_law_1265 rec_23 x4) (gret (0))))))))) (git (((hf_and v36 31) = 17)) (gsg ((x4 + 1)) (fun v882 => gsg ((x4 + 2)) (fun v888 => gbd (g_X11_lies v882 v888) (fun v889 => gsg ((x4 + 1)) (fun v898 => gsg ((x4 + 2)) (fun v904 => gbd (g_X12_lies v898 v904) (fun v905 => gcb (v889) (v905) ((v889 = v905)) (g_L_law_1265 rec_23 x4) (gret (0))))))))) (git (((hf_and v36 31) = 18)) (gsg ((x4 + 1)) (fun v919 => gsg ((x4 + 2)) (fun v925 => gsg ((x4 + 3)) (fun v931 => gsg ((x4 + 4)) (fun v937 => gck (hf_inI v937) (glet ((if (v937 = 0) then 0 else 1)) (fun w946 => gbd (g_X11_note v919 v925 v931 w946) (fun v946 => gsg ((x4 + 1)) (fun v955 => gsg ((x4 + 2)) (fun v961 => gsg ((x4 + 3)) (fun v967 => gsg ((x4 + 4)) (fun v973 => gck (hf_inI v973) (glet ((if (v973 = 0) then 0 else 1)) (fun w982 => gbd (g_X12_note v955 v961 v967 w982) (fun v982 => gcb (v946) (v982) ((v946 = v982)) (g_L_law_1265 rec_23 x4) (gret (0))))))))))))))))) (git (((hf_and v36 31) = 19)) (gsg ((x4 + 1)) (fun v996 => gbd (g_X11_strike v996) (fun v997 => gsg ((x4 + 1)) (fun v1006 => gbd (g_X12_strike v1006) (fun v1007 => gcb (v997) (v1007) ((v997 = v1007)) (g_L_law_1265 rec_23 x4) (gret (0))))))) (git (((hf_and v36 31) = 20)) (gsg ((x4 + 1)) (fun v1021 => gbd (g_X11_fitting v1021) (fun v1022 => gsg ((x4 + 1)) (fun v1031 => gbd (g_X12_fitting v1031) (fun v1032 => gcb (v1022) (v1032) ((v1022 = v1032)) (g_L_law_1265 rec_23 x4) (gret (0))))))) (git (((hf_and v36 31) = 21)) (gsg ((x4 + 1)) (fun v1046 => gbd (g_X11_doubt v1046) (fun v1047 => gsg ((x4 + 1)) (fun v1056 => gbd (g_X12_doubt v1056) (fun v1057 => gcb (v1047) (v1057) ((v1047 = v1057)) (g_L_law_1265 rec_23 x4) (gret (0))))))) (git (((hf_and v36 31) = 22)) (gsg ((x4 + 1)) (fun v1071 => gbd (g_X11_least v1071) (fun v1072 => gsg ((x4 + 1)) (fun v1081 => gbd (g_X12_least v1081) (fun v1082 => gcb (v1072) (v1082) ((v1072 = v1082)) (g_L_law_1265 rec_23 x4) (gret (0))))))) (git (((hf_and v36 31) = 23)) (gsg ((x4 + 1)) (fun v1096 => gbd (g_X11_doubted v1096) (fun v1097 => gsg ((x4 + 1)) (fun v1106 => gbd (g_X12_doubted v1106) (fun v1107 => gcb (v1097) (v1107) ((v1097 = v1107)) (g_L_law_1265 rec_23 x4) (gret (0))))))) (git (((hf_and v36 31) = 24)) (gsg ((x4 + 1)) (fun v1121 => gbd (g_X11_parts v1121) (fun v1122 => gsg ((x4 + 1)) (fun v1131 => gbd (g_X12_parts v1131) (fun v1132 => gcb (v1122) (v1132) ((v1122 = v1132)) (g_L_law_1265 rec_23 x4) (gret (0))))))) (git (((hf_and v36 31) = 25)) (gsg ((x4 + 1)) (fun v1146 => gbd (g_X11_begin v1146) (fun v1147 => gsg ((x4 + 1)) (fun v1156 => gbd (g_X12_begin v1156) (fun v1157 => gcb (v1147) (v1157) ((v1147 = v1157)) (g_L_law_1265 rec_23 x4) (gret (0))))))) (git (((hf_and v36 31) = 26)) (gsg ((x4 + 1)) (fun v1171 => gsg ((x4 + 2)) (fun v1177 => gbd (g_X11_drop v1171 v1177) (fun v1178 => gsg ((x4 + 1)) (fun v1187 => gsg ((x4 + 2)) (fun v1193 => gbd (g_X12_drop v1187 v1193) (fun v1194 => gcb (v1178) (v1194) ((v1178 = v1194)) (g_L_law_1265 rec_23 x4) (gret (0))))))))) (git (((hf_and v36 31) = 27)) (gbd (g_X11_back) (fun v1203 => gbd (g_X12_back) (fun v1207 => gcb (v1203) (v1207) ((v1203 = v1207)) (g_L_law_1265 rec_23 x4) (gret (0))))) (git (((hf_and v36 31) = 28)) (gsg ((x4 + 1)) (fun v1221 => gbd (g_X11_now v1221) (fun v1222 => gsg ((x4 + 1)) (fun v1231 => gbd (g_X12_now v1231) (fun v1232 => gcb (v1222) (v1232) ((v1222 = v1232)) (g_L_law_1265 rec_23 x4) (gret (0))))))) (git (((hf_and v36 31) = 29)) (gsg ((x4 + 1)) (fun v1246 => gbd (g_X11_count v1246) (fun v1247 => gsg ((x4 + 1)) (fun v1256 => gbd (g_X12_count v1256) (fun v1257 => gcb (v1247) (v1257) ((v1247 = v1257)) (g_L_law_1265 rec_23 x4) (gret (0))))))) (g_L_law_1265 rec_23 x4))))))))))))))))))))))))))))))))))
set_option maxRecDepth 20000 in
theorem rB_L_law_23 (frec_23 : Int → hf_M Int) (rec_23 : Int → gM Int) (hrec_23 : ∀ s : Int, gr (frec_23 s) (rec_23 s)) (x4 : Int) : gr (B_L_law_23 1 69 104 frec_23 x4) (gB_L_law_23 rec_23 x4) := by
  unfold B_L_law_23 gB_L_law_23
  refine gr_sn (fun v26 => ?_)
  refine gr_cb ?_ ?_
  · exact gr_ret _
  · refine gr_sg (fun v36 => ?_)
    refine gr_ck (fun _ => ?_)
    refine gr_it ?_ ?_
    · refine gr_sg (fun v182 => ?_)
      refine gr_sg (fun v188 => ?_)
      refine gr_sg (fun v194 => ?_)
      refine gr_sg (fun v200 => ?_)
      refine gr_sg (fun v206 => ?_)
      refine gr_bd (gr_ob 1 (by decide) (by decide) rfl (r_X11_feed _ _ _ _ _)) (fun v207 => ?_)
      refine gr_sg (fun v216 => ?_)
      refine gr_sg (fun v222 => ?_)
      refine gr_sg (fun v228 => ?_)
      refine gr_sg (fun v234 => ?_)
      refine gr_sg (fun v240 => ?_)
      refine gr_bd (gr_ob 69 (by decide) (by decide) rfl (r_X12_feed _ _ _ _ _)) (fun v241 => ?_)
      refine gr_cb ?_ ?_
      · exact r_L_law_1265 frec_23 rec_23 hrec_23 _
      · exact gr_ret _
    · refine gr_it ?_ ?_
      · refine gr_sg (fun v255 => ?_)
        refine gr_bd (gr_ob 1 (by decide) (by decide) rfl (r_X11_stair _)) (fun v256 => ?_)
        refine gr_sg (fun v265 => ?_)
        refine gr_bd (gr_ob 69 (by decide) (by decide) rfl (r_X12_stair _)) (fun v266 => ?_)
        refine gr_cb ?_ ?_
        · exact r_L_law_1265 frec_23 rec_23 hrec_23 _
        · exact gr_ret _
      · refine gr_it ?_ ?_
        · refine gr_sg (fun v280 => ?_)
          refine gr_sg (fun v286 => ?_)
          refine gr_sg (fun v292 => ?_)
          refine gr_sg (fun v298 => ?_)
          refine gr_bd (gr_ob 1 (by decide) (by decide) rfl (r_X11_kind _ _ _ _)) (fun v299 => ?_)
          refine gr_sg (fun v308 => ?_)
          refine gr_sg (fun v314 => ?_)
          refine gr_sg (fun v320 => ?_)
          refine gr_sg (fun v326 => ?_)
          refine gr_bd (gr_ob 69 (by decide) (by decide) rfl (r_X12_kind _ _ _ _)) (fun v327 => ?_)
          refine gr_cb ?_ ?_
          · exact r_L_law_1265 frec_23 rec_23 hrec_23 _
          · exact gr_ret _
        · refine gr_it ?_ ?_
          · refine gr_sg (fun v341 => ?_)
            refine gr_sg (fun v347 => ?_)
            refine gr_bd (gr_ob 1 (by decide) (by decide) rfl (r_X11_cost _ _)) (fun v348 => ?_)
            refine gr_sg (fun v357 => ?_)
            refine gr_sg (fun v363 => ?_)
            refine gr_bd (gr_ob 69 (by decide) (by decide) rfl (r_X12_cost _ _)) (fun v364 => ?_)
            refine gr_cb ?_ ?_
            · exact r_L_law_1265 frec_23 rec_23 hrec_23 _
            · exact gr_ret _
          · refine gr_it ?_ ?_
            · refine gr_sg (fun v378 => ?_)
              refine gr_sg (fun v384 => ?_)
              refine gr_bd (gr_ob 1 (by decide) (by decide) rfl (r_X11_weight _ _)) (fun v385 => ?_)
              refine gr_sg (fun v394 => ?_)
              refine gr_sg (fun v400 => ?_)
              refine gr_bd (gr_ob 69 (by decide) (by decide) rfl (r_X12_weight _ _)) (fun v401 => ?_)
              refine gr_cb ?_ ?_
              · exact r_L_law_1265 frec_23 rec_23 hrec_23 _
              · exact gr_ret _
            · refine gr_it ?_ ?_
              · refine gr_sg (fun v415 => ?_)
                refine gr_sg (fun v421 => ?_)
                refine gr_bd (r_L_look _ _) (fun v423 => ?_)
                refine gr_sg (fun v434 => ?_)
                refine gr_sg (fun v440 => ?_)
                refine gr_bd (gr_ob 69 (by decide) (by decide) rfl (r_X12_look _ _)) (fun v441 => ?_)
                refine gr_bd (gr_ob 69 (by decide) (by decide) rfl (r_X12_thrown)) (fun v447 => ?_)
                refine gr_cb ?_ ?_
                · refine gr_cz ?_ ?_
                  · exact r_L_law_1265 frec_23 rec_23 hrec_23 _
                  · refine gr_al 104 1 (by decide) (by decide) rfl (by decide) rfl (fun v464 => ?_)
                    refine gr_ck (fun _ => ?_)
                    refine gr_cl ?_ ?_
                    · exact r_L_law_1265 frec_23 rec_23 hrec_23 _
                    · exact gr_ret _
                · exact gr_ret _
              · refine gr_it ?_ ?_
                · refine gr_sg (fun v483 => ?_)
                  refine gr_bd (gr_ob 1 (by decide) (by decide) rfl (r_X11_likely _)) (fun v484 => ?_)
                  refine gr_sg (fun v493 => ?_)
                  refine gr_bd (gr_ob 69 (by decide) (by decide) rfl (r_X12_likely _)) (fun v494 => ?_)
                  refine gr_cb ?_ ?_
                  · exact r_L_law_1265 frec_23 rec_23 hrec_23 _
                  · exact gr_ret _
                · refine gr_it ?_ ?_
                  · refine gr_sg (fun v508 => ?_)
                    refine gr_bd (gr_ob 1 (by decide) (by decide) rfl (r_X11_plan _)) (fun v509 => ?_)
                    refine gr_sg (fun v518 => ?_)
                    refine gr_bd (gr_ob 69 (by decide) (by decide) rfl (r_X12_plan _)) (fun v519 => ?_)
                    refine gr_cb ?_ ?_
                    · exact r_L_law_1265 frec_23 rec_23 hrec_23 _
                    · exact gr_ret _
                  · refine gr_it ?_ ?_
                    · refine gr_sg (fun v533 => ?_)
                      refine gr_bd (gr_ob 1 (by decide) (by decide) rfl (r_X11_fault _)) (fun v534 => ?_)
                      refine gr_sg (fun v543 => ?_)
                      refine gr_bd (gr_ob 69 (by decide) (by decide) rfl (r_X12_fault _)) (fun v544 => ?_)
                      refine gr_cb ?_ ?_
                      · exact r_L_law_1265 frec_23 rec_23 hrec_23 _
                      · exact gr_ret _
                    · refine gr_it ?_ ?_
                      · refine gr_sg (fun v558 => ?_)
                        refine gr_sg (fun v564 => ?_)
                        refine gr_bd (gr_ob 1 (by decide) (by decide) rfl (r_X11_tried _ _)) (fun v565 => ?_)
                        refine gr_sg (fun v574 => ?_)
                        refine gr_sg (fun v580 => ?_)
                        refine gr_bd (gr_ob 69 (by decide) (by decide) rfl (r_X12_tried _ _)) (fun v581 => ?_)
                        refine gr_cl ?_ ?_
                        · exact r_L_law_1265 frec_23 rec_23 hrec_23 _
                        · exact gr_ret _
                      · refine gr_it ?_ ?_
                        · refine gr_sg (fun v596 => ?_)
                          refine gr_sg (fun v602 => ?_)
                          refine gr_sg (fun v608 => ?_)
                          refine gr_bd (gr_ob 1 (by decide) (by decide) rfl (r_X11_fall _ _ _)) (fun v609 => ?_)
                          refine gr_sg (fun v618 => ?_)
                          refine gr_sg (fun v624 => ?_)
                          refine gr_sg (fun v630 => ?_)
                          refine gr_bd (gr_ob 69 (by decide) (by decide) rfl (r_X12_fall _ _ _)) (fun v631 => ?_)
                          refine gr_cb ?_ ?_
                          · exact r_L_law_1265 frec_23 rec_23 hrec_23 _
                          · exact gr_ret _
                        · refine gr_it ?_ ?_
                          · refine gr_sg (fun v645 => ?_)
                            refine gr_bd (gr_ob 1 (by decide) (by decide) rfl (r_X11_judge _)) (fun v646 => ?_)
                            refine gr_sg (fun v655 => ?_)
                            refine gr_bd (gr_ob 69 (by decide) (by decide) rfl (r_X12_judge _)) (fun v656 => ?_)
                            refine gr_cl ?_ ?_
                            · exact r_L_law_1265 frec_23 rec_23 hrec_23 _
                            · exact gr_ret _
                          · refine gr_it ?_ ?_
                            · refine gr_sg (fun v671 => ?_)
                              refine gr_bd (gr_ob 1 (by decide) (by decide) rfl (r_X11_best _)) (fun v672 => ?_)
                              refine gr_sg (fun v681 => ?_)
                              refine gr_bd (gr_ob 69 (by decide) (by decide) rfl (r_X12_best _)) (fun v682 => ?_)
                              refine gr_cl ?_ ?_
                              · exact r_L_law_1265 frec_23 rec_23 hrec_23 _
                              · exact gr_ret _
                            · refine gr_it ?_ ?_
                              · refine gr_sg (fun v697 => ?_)
                                refine gr_sg (fun v703 => ?_)
                                refine gr_sg (fun v709 => ?_)
                                refine gr_sg (fun v715 => ?_)
                                refine gr_sg (fun v721 => ?_)
                                refine gr_bd (gr_ob 1 (by decide) (by decide) rfl (r_X11_next _ _ _ _ _)) (fun v722 => ?_)
                                refine gr_sg (fun v731 => ?_)
                                refine gr_sg (fun v737 => ?_)
                                refine gr_sg (fun v743 => ?_)
                                refine gr_sg (fun v749 => ?_)
                                refine gr_sg (fun v755 => ?_)
                                refine gr_bd (gr_ob 69 (by decide) (by decide) rfl (r_X12_next _ _ _ _ _)) (fun v756 => ?_)
                                refine gr_cl ?_ ?_
                                · exact r_L_law_1265 frec_23 rec_23 hrec_23 _
                                · exact gr_ret _
                              · refine gr_it ?_ ?_
                                · refine gr_sg (fun v771 => ?_)
                                  refine gr_sg (fun v777 => ?_)
                                  refine gr_bd (gr_ob 1 (by decide) (by decide) rfl (r_X11_edge _ _)) (fun v778 => ?_)
                                  refine gr_sg (fun v787 => ?_)
                                  refine gr_sg (fun v793 => ?_)
                                  refine gr_bd (gr_ob 69 (by decide) (by decide) rfl (r_X12_edge _ _)) (fun v794 => ?_)
                                  refine gr_cb ?_ ?_
                                  · exact r_L_law_1265 frec_23 rec_23 hrec_23 _
                                  · exact gr_ret _
                                · refine gr_it ?_ ?_
                                  · refine gr_sg (fun v808 => ?_)
                                    refine gr_sg (fun v814 => ?_)
                                    refine gr_bd (gr_ob 1 (by decide) (by decide) rfl (r_X11_weak _ _)) (fun v815 => ?_)
                                    refine gr_sg (fun v824 => ?_)
                                    refine gr_sg (fun v830 => ?_)
                                    refine gr_bd (gr_ob 69 (by decide) (by decide) rfl (r_X12_weak _ _)) (fun v831 => ?_)
                                    refine gr_cb ?_ ?_
                                    · exact r_L_law_1265 frec_23 rec_23 hrec_23 _
                                    · exact gr_ret _
                                  · refine gr_it ?_ ?_
                                    · refine gr_sg (fun v845 => ?_)
                                      refine gr_sg (fun v851 => ?_)
                                      refine gr_bd (gr_ob 1 (by decide) (by decide) rfl (r_X11_rounds _ _)) (fun v852 => ?_)
                                      refine gr_sg (fun v861 => ?_)
                                      refine gr_sg (fun v867 => ?_)
                                      refine gr_bd (gr_ob 69 (by decide) (by decide) rfl (r_X12_rounds _ _)) (fun v868 => ?_)
                                      refine gr_cb ?_ ?_
                                      · exact r_L_law_1265 frec_23 rec_23 hrec_23 _
                                      · exact gr_ret _
                                    · refine gr_it ?_ ?_
                                      · refine gr_sg (fun v882 => ?_)
                                        refine gr_sg (fun v888 => ?_)
                                        refine gr_bd (gr_ob 1 (by decide) (by decide) rfl (r_X11_lies _ _)) (fun v889 => ?_)
                                        refine gr_sg (fun v898 => ?_)
                                        refine gr_sg (fun v904 => ?_)
                                        refine gr_bd (gr_ob 69 (by decide) (by decide) rfl (r_X12_lies _ _)) (fun v905 => ?_)
                                        refine gr_cb ?_ ?_
                                        · exact r_L_law_1265 frec_23 rec_23 hrec_23 _
                                        · exact gr_ret _
                                      · refine gr_it ?_ ?_
                                        · refine gr_sg (fun v919 => ?_)
                                          refine gr_sg (fun v925 => ?_)
                                          refine gr_sg (fun v931 => ?_)
                                          refine gr_sg (fun v937 => ?_)
                                          refine gr_ck (fun _ => ?_)
                                          refine gr_let (fun w946 => ?_)
                                          refine gr_bd (gr_ob 1 (by decide) (by decide) rfl (r_X11_note _ _ _ _)) (fun v946 => ?_)
                                          refine gr_sg (fun v955 => ?_)
                                          refine gr_sg (fun v961 => ?_)
                                          refine gr_sg (fun v967 => ?_)
                                          refine gr_sg (fun v973 => ?_)
                                          refine gr_ck (fun _ => ?_)
                                          refine gr_let (fun w982 => ?_)
                                          refine gr_bd (gr_ob 69 (by decide) (by decide) rfl (r_X12_note _ _ _ _)) (fun v982 => ?_)
                                          refine gr_cb ?_ ?_
                                          · exact r_L_law_1265 frec_23 rec_23 hrec_23 _
                                          · exact gr_ret _
                                        · refine gr_it ?_ ?_
                                          · refine gr_sg (fun v996 => ?_)
                                            refine gr_bd (gr_ob 1 (by decide) (by decide) rfl (r_X11_strike _)) (fun v997 => ?_)
                                            refine gr_sg (fun v1006 => ?_)
                                            refine gr_bd (gr_ob 69 (by decide) (by decide) rfl (r_X12_strike _)) (fun v1007 => ?_)
                                            refine gr_cb ?_ ?_
                                            · exact r_L_law_1265 frec_23 rec_23 hrec_23 _
                                            · exact gr_ret _
                                          · refine gr_it ?_ ?_
                                            · refine gr_sg (fun v1021 => ?_)
                                              refine gr_bd (gr_ob 1 (by decide) (by decide) rfl (r_X11_fitting _)) (fun v1022 => ?_)
                                              refine gr_sg (fun v1031 => ?_)
                                              refine gr_bd (gr_ob 69 (by decide) (by decide) rfl (r_X12_fitting _)) (fun v1032 => ?_)
                                              refine gr_cb ?_ ?_
                                              · exact r_L_law_1265 frec_23 rec_23 hrec_23 _
                                              · exact gr_ret _
                                            · refine gr_it ?_ ?_
                                              · refine gr_sg (fun v1046 => ?_)
                                                refine gr_bd (gr_ob 1 (by decide) (by decide) rfl (r_X11_doubt _)) (fun v1047 => ?_)
                                                refine gr_sg (fun v1056 => ?_)
                                                refine gr_bd (gr_ob 69 (by decide) (by decide) rfl (r_X12_doubt _)) (fun v1057 => ?_)
                                                refine gr_cb ?_ ?_
                                                · exact r_L_law_1265 frec_23 rec_23 hrec_23 _
                                                · exact gr_ret _
                                              · refine gr_it ?_ ?_
                                                · refine gr_sg (fun v1071 => ?_)
                                                  refine gr_bd (gr_ob 1 (by decide) (by decide) rfl (r_X11_least _)) (fun v1072 => ?_)
                                                  refine gr_sg (fun v1081 => ?_)
                                                  refine gr_bd (gr_ob 69 (by decide) (by decide) rfl (r_X12_least _)) (fun v1082 => ?_)
                                                  refine gr_cb ?_ ?_
                                                  · exact r_L_law_1265 frec_23 rec_23 hrec_23 _
                                                  · exact gr_ret _
                                                · refine gr_it ?_ ?_
                                                  · refine gr_sg (fun v1096 => ?_)
                                                    refine gr_bd (gr_ob 1 (by decide) (by decide) rfl (r_X11_doubted _)) (fun v1097 => ?_)
                                                    refine gr_sg (fun v1106 => ?_)
                                                    refine gr_bd (gr_ob 69 (by decide) (by decide) rfl (r_X12_doubted _)) (fun v1107 => ?_)
                                                    refine gr_cb ?_ ?_
                                                    · exact r_L_law_1265 frec_23 rec_23 hrec_23 _
                                                    · exact gr_ret _
                                                  · refine gr_it ?_ ?_
                                                    · refine gr_sg (fun v1121 => ?_)
                                                      refine gr_bd (gr_ob 1 (by decide) (by decide) rfl (r_X11_parts _)) (fun v1122 => ?_)
                                                      refine gr_sg (fun v1131 => ?_)
                                                      refine gr_bd (gr_ob 69 (by decide) (by decide) rfl (r_X12_parts _)) (fun v1132 => ?_)
                                                      refine gr_cb ?_ ?_
                                                      · exact r_L_law_1265 frec_23 rec_23 hrec_23 _
                                                      · exact gr_ret _
                                                    · refine gr_it ?_ ?_
                                                      · refine gr_sg (fun v1146 => ?_)
                                                        refine gr_bd (gr_ob 1 (by decide) (by decide) rfl (r_X11_begin _)) (fun v1147 => ?_)
                                                        refine gr_sg (fun v1156 => ?_)
                                                        refine gr_bd (gr_ob 69 (by decide) (by decide) rfl (r_X12_begin _)) (fun v1157 => ?_)
                                                        refine gr_cb ?_ ?_
                                                        · exact r_L_law_1265 frec_23 rec_23 hrec_23 _
                                                        · exact gr_ret _
                                                      · refine gr_it ?_ ?_
                                                        · refine gr_sg (fun v1171 => ?_)
                                                          refine gr_sg (fun v1177 => ?_)
                                                          refine gr_bd (gr_ob 1 (by decide) (by decide) rfl (r_X11_drop _ _)) (fun v1178 => ?_)
                                                          refine gr_sg (fun v1187 => ?_)
                                                          refine gr_sg (fun v1193 => ?_)
                                                          refine gr_bd (gr_ob 69 (by decide) (by decide) rfl (r_X12_drop _ _)) (fun v1194 => ?_)
                                                          refine gr_cb ?_ ?_
                                                          · exact r_L_law_1265 frec_23 rec_23 hrec_23 _
                                                          · exact gr_ret _
                                                        · refine gr_it ?_ ?_
                                                          · refine gr_bd (gr_ob 1 (by decide) (by decide) rfl (r_X11_back)) (fun v1203 => ?_)
                                                            refine gr_bd (gr_ob 69 (by decide) (by decide) rfl (r_X12_back)) (fun v1207 => ?_)
                                                            refine gr_cb ?_ ?_
                                                            · exact r_L_law_1265 frec_23 rec_23 hrec_23 _
                                                            · exact gr_ret _
                                                          · refine gr_it ?_ ?_
                                                            · refine gr_sg (fun v1221 => ?_)
                                                              refine gr_bd (gr_ob 1 (by decide) (by decide) rfl (r_X11_now _)) (fun v1222 => ?_)
                                                              refine gr_sg (fun v1231 => ?_)
                                                              refine gr_bd (gr_ob 69 (by decide) (by decide) rfl (r_X12_now _)) (fun v1232 => ?_)
                                                              refine gr_cb ?_ ?_
                                                              · exact r_L_law_1265 frec_23 rec_23 hrec_23 _
                                                              · exact gr_ret _
                                                            · refine gr_it ?_ ?_
                                                              · refine gr_sg (fun v1246 => ?_)
                                                                refine gr_bd (gr_ob 1 (by decide) (by decide) rfl (r_X11_count _)) (fun v1247 => ?_)
                                                                refine gr_sg (fun v1256 => ?_)
                                                                refine gr_bd (gr_ob 69 (by decide) (by decide) rfl (r_X12_count _)) (fun v1257 => ?_)
                                                                refine gr_cb ?_ ?_
                                                                · exact r_L_law_1265 frec_23 rec_23 hrec_23 _
                                                                · exact gr_ret _
                                                              · exact r_L_law_1265 frec_23 rec_23 hrec_23 _
def g_L_law_23 (x4 : Int) : gM Int :=
  gfx (fun rec s => gB_L_law_23 rec s) hf_N x4
set_option maxRecDepth 20000 in
theorem r_L_law_23 (x4 : Int) : gr (f_L_law_23 1 69 104 x4) (g_L_law_23 x4) := by
  unfold f_L_law_23 g_L_law_23
  refine gr_fx (fun frec rec hrec s => ?_) _ _
  exact rB_L_law_23 _ _ hrec _
