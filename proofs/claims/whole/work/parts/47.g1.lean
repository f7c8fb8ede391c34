/-! THE PROGRAMS AT THEIR OBJECTS: printed by gen2.py -/
def g_X12_fault (x1 : Int) : gM Int :=
  gput (-6902) (0) (gcz (x1) ((¬ (x1 = 0))) (gcb (x1) (1) ((¬ (x1 = 1))) (gret ((-1))) (gget (-6912) (fun v22 => gret (v22)))) (gget (-6911) (fun v10 => gret (v10))))
set_option maxRecDepth 20000 in
theorem r_X12_fault (x1 : Int) : gr (f_X12_fault 69 x1) (g_X12_fault x1) := by
  unfold f_X12_fault g_X12_fault
  refine gr_pf 69 (by decide) (by decide) rfl (by decide) (by decide) rfl rfl ?_
  refine gr_cz ?_ ?_
  · refine gr_cb ?_ ?_
    · exact gr_ret _
    · refine gr_gf 69 (by decide) (by decide) rfl (by decide) rfl (fun v22 => ?_)
      exact gr_ret _
  · refine gr_gf 69 (by decide) (by decide) rfl (by decide) rfl (fun v10 => ?_)
    exact gr_ret _
def g_X11_tried_30  : gM Int :=
  gret ((-1))
set_option maxRecDepth 20000 in
theorem r_X11_tried_30  : gr (f_X11_tried_30 ) (g_X11_tried_30 ) := by
  unfold f_X11_tried_30 g_X11_tried_30
  exact gr_ret _
def gB_X1_start_2_o29 (x2 : Int) (rec_2 : Int → gM Int) (x3 : Int) : gM Int :=
  gcb (x3) (3) ((3 ≤ x3)) (gput (-2908) (x2) (gput (-2909) (0) (gget (-200) (fun v37 => gput (-2910) (v37) (gput (-2911) (0) (gput (-2912) (0) (gput (-2913) (0) (gret (0))))))))) (gal 4 3 (x3) (fun v17 => gas 30 3 (x3) (v17) (glet ((x3 + 1)) (fun x3_19 => rec_2 x3_19))))
set_option maxRecDepth 20000 in
theorem rB_X1_start_2_o29 (x2 : Int) (frec_2 : Int → hf_M Int) (rec_2 : Int → gM Int) (hrec_2 : ∀ s : Int, gr (frec_2 s) (rec_2 s)) (x3 : Int) : gr (B_X1_start_2 29 2 x2 frec_2 x3) (gB_X1_start_2_o29 x2 rec_2 x3) := by
  unfold B_X1_start_2 gB_X1_start_2_o29
  refine gr_cb ?_ ?_
  · refine gr_pf 29 (by decide) (by decide) rfl (by decide) (by decide) rfl rfl ?_
    refine gr_pf 29 (by decide) (by decide) rfl (by decide) (by decide) rfl rfl ?_
    refine gr_gf 2 (by decide) (by decide) rfl (by decide) rfl (fun v37 => ?_)
    refine gr_pf 29 (by decide) (by decide) rfl (by decide) (by decide) rfl rfl ?_
    refine gr_pf 29 (by decide) (by decide) rfl (by decide) (by decide) rfl rfl ?_
    refine gr_pf 29 (by decide) (by decide) rfl (by decide) (by decide) rfl rfl ?_
    refine gr_pf 29 (by decide) (by decide) rfl (by decide) (by decide) rfl rfl ?_
    exact gr_ret _
  · refine gr_gfp 29 30 (by decide) (by decide) rfl rfl (by decide) ?_
    refine gr_gfp 2 4 (by decide) (by decide) rfl rfl (by decide) ?_
    refine gr_al 4 3 (by decide) (by decide) rfl (by decide) rfl (fun v17 => ?_)
    refine gr_as 30 3 (by decide) (by decide) rfl (by decide) rfl rfl ?_
    refine gr_let (fun x3_19 => ?_)
    exact hrec_2 _
def g_X1_start_2_o29 (x2 : Int) (x3 : Int) : gM Int :=
  gfx (fun rec s => gB_X1_start_2_o29 x2 rec s) hf_N x3
set_option maxRecDepth 20000 in
theorem r_X1_start_2_o29 (x2 : Int) (x3 : Int) : gr (f_X1_start_2 29 2 x2 x3) (g_X1_start_2_o29 x2 x3) := by
  unfold f_X1_start_2 g_X1_start_2_o29
  refine gr_fx (fun frec rec hrec s => ?_) _ _
  exact rB_X1_start_2_o29 _ _ _ hrec _
def g_X1_start_o29 (x2 : Int) : gM Int :=
  g_X1_start_2_o29 x2 0
set_option maxRecDepth 20000 in
theorem r_X1_start_o29 (x2 : Int) : gr (f_X1_start 29 2 x2) (g_X1_start_o29 x2) := by
  unfold f_X1_start g_X1_start_o29
  exact r_X1_start_2_o29 _ _
def g_X6_run_77 (rec_24 : Int → gM Int) (x2 : Int) (x3 : Int) (x4 : Int) : gM Int :=
  glet ((x4 + 1)) (fun x4_77 => rec_24 x4_77)
set_option maxRecDepth 20000 in
theorem r_X6_run_77 (frec_24 : Int → hf_M Int) (rec_24 : Int → gM Int) (hrec_24 : ∀ s : Int, gr (frec_24 s) (rec_24 s)) (x2 : Int) (x3 : Int) (x4 : Int) : gr (f_X6_run_77 frec_24 28 2 x2 x3 x4) (g_X6_run_77 rec_24 x2 x3 x4) := by
  unfold f_X6_run_77 g_X6_run_77
  refine gr_let (fun x4_77 => ?_)
  exact hrec_24 _
def g_X4_conditionFrom (x0 : Int) (x1 : Int) : gM Int :=
  gcz (x1) ((x1 ≤ 0)) (gret (0)) (gck (x0 = 18 ∨ x0 = 23) (gal (x0 + 3) 12 ((x1 - 1)) (fun v11 => gret (v11))))
set_option maxRecDepth 20000 in
theorem r_X4_conditionFrom (x0 : Int) (x1 : Int) : gr (f_X4_conditionFrom x0 x1) (g_X4_conditionFrom x0 x1) := by
  unfold f_X4_conditionFrom g_X4_conditionFrom
  refine gr_cz ?_ ?_
  · exact gr_ret _
  · refine gr_gfpp 3 (by decide) (by decide) (fun hp => ?_)
    refine gr_alp (by decide) (by decide) rfl rfl (by assumption) (fun v11 => ?_)
    exact gr_ret _
def g_X4_hasCondition (x0 : Int) (x1 : Int) : gM Int :=
  gck (x0 = 18 ∨ x0 = 23) (gal (x0 + 2) 12 (x1) (fun v5 => gck (x0 = 18 ∨ x0 = 23) (gbd (g_X4_conditionFrom x0 x1) (fun v8 => gck ((hf_inI v5) ∧ (hf_inI v8)) (glet ((if (v5 ≤ v8) then 0 else 1)) (fun w19 => gck ((w19 = 0) ∨ (w19 = 1)) (gret (w19))))))))
set_option maxRecDepth 20000 in
theorem r_X4_hasCondition (x0 : Int) (x1 : Int) : gr (f_X4_hasCondition x0 x1) (g_X4_hasCondition x0 x1) := by
  unfold f_X4_hasCondition g_X4_hasCondition
  refine gr_gfpp 2 (by decide) (by decide) (fun hp => ?_)
  refine gr_alp (by decide) (by decide) rfl rfl (by assumption) (fun v5 => ?_)
  refine gr_bdp (fun hp => r_X4_conditionFrom _ _) (fun v8 => ?_)
  refine gr_ck (fun _ => ?_)
  refine gr_let (fun w19 => ?_)
  refine gr_ck (fun _ => ?_)
  exact gr_ret _
def g_X7_pop  : gM Int :=
  gget (-3701) (fun v1 => gcz (v1) ((¬ (v1 = 0))) (gget (-3701) (fun v16 => gput (-3701) ((v16 - 1)) (gget (-3701) (fun v29 => gal 38 64 (v29) (fun v32 => gret (v32)))))) (gput (-3702) (1) (gret (0))))
set_option maxRecDepth 20000 in
theorem r_X7_pop  : gr (f_X7_pop 37) (g_X7_pop ) := by
  unfold f_X7_pop g_X7_pop
  refine gr_gf 37 (by decide) (by decide) rfl (by decide) rfl (fun v1 => ?_)
  refine gr_cz ?_ ?_
  · refine gr_gf 37 (by decide) (by decide) rfl (by decide) rfl (fun v16 => ?_)
    refine gr_pf 37 (by decide) (by decide) rfl (by decide) (by decide) rfl rfl ?_
    refine gr_gfp 37 38 (by decide) (by decide) rfl rfl (by decide) ?_
    refine gr_gf 37 (by decide) (by decide) rfl (by decide) rfl (fun v29 => ?_)
    refine gr_al 38 64 (by decide) (by decide) rfl (by decide) rfl (fun v32 => ?_)
    exact gr_ret _
  · refine gr_pf 37 (by decide) (by decide) rfl (by decide) (by decide) rfl rfl ?_
    exact gr_ret _
def g_X7_work_99  : gM Int :=
  gget (-3702) (fun v100 => gcz (v100) ((v100 = 0)) (gbd (g_X7_pop) (fun v111 => gret (v111))) (gret (0)))
set_option maxRecDepth 20000 in
theorem r_X7_work_99  : gr (f_X7_work_99 37) (g_X7_work_99 ) := by
  unfold f_X7_work_99 g_X7_work_99
  refine gr_gf 37 (by decide) (by decide) rfl (by decide) rfl (fun v100 => ?_)
  refine gr_cz ?_ ?_
  · refine gr_bd (gr_ob 37 (by decide) (by decide) rfl (r_X7_pop)) (fun v111 => ?_)
    exact gr_ret _
  · exact gr_ret _
def g_X7_push_51  : gM Int :=
  gput (-3702) (1) (gret (0))
set_option maxRecDepth 20000 in
theorem r_X7_push_51  : gr (f_X7_push_51 37) (g_X7_push_51 ) := by
  unfold f_X7_push_51 g_X7_push_51
  refine gr_pf 37 (by decide) (by decide) rfl (by decide) (by decide) rfl rfl ?_
  exact gr_ret _
def g_X7_push (x1 : Int) : gM Int :=
  gget (-3701) (fun v1 => gcb (v1) (64) ((64 ≤ v1)) (g_X7_push_51) (gcl (x1) (1000000000000) ((1000000000000 < x1)) (g_X7_push_51) (gcl (x1) ((-1000000000000)) ((x1 < (-1000000000000))) (g_X7_push_51) (gget (-3701) (fun v33 => gas 38 64 (v33) (x1) (gget (-3701) (fun v40 => gput (-3701) ((v40 + 1)) (gret (0)))))))))
set_option maxRecDepth 20000 in
theorem r_X7_push (x1 : Int) : gr (f_X7_push 37 x1) (g_X7_push x1) := by
  unfold f_X7_push g_X7_push
  refine gr_gf 37 (by decide) (by decide) rfl (by decide) rfl (fun v1 => ?_)
  refine gr_gfp 37 38 (by decide) (by decide) rfl rfl (by decide) ?_
  refine gr_an 38 64 (by decide) (by decide) rfl rfl ?_
  refine gr_cb ?_ ?_
  · exact r_X7_push_51
  · refine gr_cl ?_ ?_
    · exact r_X7_push_51
    · refine gr_cl ?_ ?_
      · exact r_X7_push_51
      · refine gr_gfp 37 38 (by decide) (by decide) rfl rfl (by decide) ?_
        refine gr_gf 37 (by decide) (by decide) rfl (by decide) rfl (fun v33 => ?_)
        refine gr_as 38 64 (by decide) (by decide) rfl (by decide) rfl rfl ?_
        refine gr_gf 37 (by decide) (by decide) rfl (by decide) rfl (fun v40 => ?_)
        refine gr_pf 37 (by decide) (by decide) rfl (by decide) (by decide) rfl rfl ?_
        exact gr_ret _
def g_X7_multiply_30 (x1 : Int) (x3 : Int) : gM Int :=
  gbd (g_X7_push (x1 * x3)) (fun _ => gret (0))
set_option maxRecDepth 20000 in
theorem r_X7_multiply_30 (x1 : Int) (x3 : Int) : gr (f_X7_multiply_30 37 x1 x3) (g_X7_multiply_30 x1 x3) := by
  unfold f_X7_multiply_30 g_X7_multiply_30
  refine gr_bd (gr_ob 37 (by decide) (by decide) rfl (r_X7_push _)) (fun _ => ?_)
  exact gr_ret _
def g_X7_multiply (x1 : Int) (x3 : Int) : gM Int :=
  gcl (x1) (0) ((x1 = 0)) (g_X7_multiply_30 x1 x3) (gck (hf_inL x3) (glet ((if (0 < x3) then x3 else (-x3))) (fun v7 => gck (hf_inL x1) (glet ((if (0 < x1) then x1 else (-x1))) (fun v14 => gdvl (1000000000000) (v14) (fun v17 => gcl (v7) (v17) ((v7 ≤ v17)) (g_X7_multiply_30 x1 x3) (gput (-3702) (1) (gret (0)))))))))
set_option maxRecDepth 20000 in
theorem r_X7_multiply (x1 : Int) (x3 : Int) : gr (f_X7_multiply 37 x1 x3) (g_X7_multiply x1 x3) := by
  unfold f_X7_multiply g_X7_multiply
  refine gr_cl ?_ ?_
  · exact r_X7_multiply_30 _ _
  · refine gr_ck (fun _ => ?_)
    refine gr_let (fun v7 => ?_)
    refine gr_ck (fun _ => ?_)
    refine gr_let (fun v14 => ?_)
    refine gr_dvl (fun v17 => ?_)
    refine gr_cl ?_ ?_
    · exact r_X7_multiply_30 _ _
    · refine gr_pf 37 (by decide) (by decide) rfl (by decide) (by decide) rfl rfl ?_
      exact gr_ret _
def g_X7_divide (x1 : Int) (x3 : Int) : gM Int :=
  gcl (x3) (0) ((¬ (x3 = 0))) (gdvl (x1) (x3) (fun v17 => gbd (g_X7_push v17) (fun _ => gret (0)))) (gput (-3702) (1) (gret (0)))
set_option maxRecDepth 20000 in
theorem r_X7_divide (x1 : Int) (x3 : Int) : gr (f_X7_divide 37 x1 x3) (g_X7_divide x1 x3) := by
  unfold f_X7_divide g_X7_divide
  refine gr_cl ?_ ?_
  · refine gr_dvl (fun v17 => ?_)
    refine gr_bd (gr_ob 37 (by decide) (by decide) rfl (r_X7_push _)) (fun _ => ?_)
    exact gr_ret _
  · refine gr_pf 37 (by decide) (by decide) rfl (by decide) (by decide) rfl rfl ?_
    exact gr_ret _
def g_X7_holds (x0 : Int) (x1 : Int) (x3 : Int) : gM Int :=
  gck (hf_inI x0) (git ((x0 = 10)) (gcl (x1) (0) ((¬ (x1 = 0))) (gret (1)) (gcl (x3) (0) ((x3 = 0)) (gret (0)) (gret (1)))) (git ((x0 = 11)) (gcl (x1) (0) ((x1 = 0)) (gret (0)) (gcl (x3) (0) ((x3 = 0)) (gret (0)) (gret (1)))) (git ((x0 = 21)) (gck ((hf_inL x1) ∧ (hf_inL x3)) (glet ((if (x3 ≤ x1) then 0 else 1)) (fun w127 => gck ((w127 = 0) ∨ (w127 = 1)) (gret (w127))))) (git ((x0 = 22)) (gck ((hf_inL x1) ∧ (hf_inL x3)) (glet ((if (x3 < x1) then 0 else 1)) (fun w139 => gck ((w139 = 0) ∨ (w139 = 1)) (gret (w139))))) (git ((x0 = 23)) (gck ((hf_inL x1) ∧ (hf_inL x3)) (glet ((if (¬ (x1 = x3)) then 0 else 1)) (fun w151 => gck ((w151 = 0) ∨ (w151 = 1)) (gret (w151))))) (git ((x0 = 24)) (gck ((hf_inL x1) ∧ (hf_inL x3)) (glet ((if (x1 = x3) then 0 else 1)) (fun w163 => gck ((w163 = 0) ∨ (w163 = 1)) (gret (w163))))) (git ((x0 = 25)) (gck ((hf_inL x1) ∧ (hf_inL x3)) (glet ((if (x1 < x3) then 0 else 1)) (fun w175 => gck ((w175 = 0) ∨ (w175 = 1)) (gret (w175))))) (gck ((hf_inL x1) ∧ (hf_inL x3)) (glet ((if (x1 ≤ x3) then 0 else 1)) (fun w187 => gck ((w187 = 0) ∨ (w187 = 1)) (gret (w187))))))))))))
set_option maxRecDepth 20000 in
theorem r_X7_holds (x0 : Int) (x1 : Int) (x3 : Int) : gr (f_X7_holds x0 x1 x3) (g_X7_holds x0 x1 x3) := by
  unfold f_X7_holds g_X7_holds
  refine gr_ck (fun _ => ?_)
  refine gr_it ?_ ?_
  · refine gr_cl ?_ ?_
    · exact gr_ret _
    · refine gr_cl ?_ ?_
      · exact gr_ret _
      · exact gr_ret _
  · refine gr_it ?_ ?_
    · refine gr_cl ?_ ?_
      · exact gr_ret _
      · refine gr_cl ?_ ?_
        · exact gr_ret _
        · exact gr_ret _
    · refine gr_it ?_ ?_
      · refine gr_ck (fun _ => ?_)
        refine gr_let (fun w127 => ?_)
        refine gr_ck (fun _ => ?_)
        exact gr_ret _
      · refine gr_it ?_ ?_
        · refine gr_ck (fun _ => ?_)
          refine gr_let (fun w139 => ?_)
          refine gr_ck (fun _ => ?_)
          exact gr_ret _
        · refine gr_it ?_ ?_
          · refine gr_ck (fun _ => ?_)
            refine gr_let (fun w151 => ?_)
            refine gr_ck (fun _ => ?_)
            exact gr_ret _
          · refine gr_it ?_ ?_
            · refine gr_ck (fun _ => ?_)
              refine gr_let (fun w163 => ?_)
              refine gr_ck (fun _ => ?_)
              exact gr_ret _
            · refine gr_it ?_ ?_
              · refine gr_ck (fun _ => ?_)
                refine gr_let (fun w175 => ?_)
                refine gr_ck (fun _ => ?_)
                exact gr_ret _
              · refine gr_ck (fun _ => ?_)
                refine gr_let (fun w187 => ?_)
                refine gr_ck (fun _ => ?_)
                exact gr_ret _
def g_X7_operate (x1 : Int) : gM Int :=
  gbd (g_X7_pop) (fun v1 => gcb (x1) (9) ((¬ (x1 = 9))) (gbd (g_X7_pop) (fun v28 => gck (hf_inI x1) (git ((x1 = 27)) (gbd (g_X7_push (v28 + v1)) (fun _ => gret (0))) (git ((x1 = 28)) (gbd (g_X7_push (v28 - v1)) (fun _ => gret (0))) (git ((x1 = 29)) (gbd (g_X7_multiply v28 v1) (fun _ => gret (0))) (git ((x1 = 30)) (gbd (g_X7_divide v28 v1) (fun _ => gret (0))) (gbd (g_X7_holds x1 v28 v1) (fun v111 => gck (hf_inI v111) (glet ((if (v111 = 0) then 0 else 1)) (fun w122 => gbd (g_X7_push w122) (fun _ => gret (0)))))))))))) (gck ((hf_inL v1) ∧ (hf_inL 0)) (glet ((if (¬ (v1 = 0)) then 0 else 1)) (fun w23 => gbd (g_X7_push w23) (fun _ => gret (0))))))
set_option maxRecDepth 20000 in
theorem r_X7_operate (x1 : Int) : gr (f_X7_operate 37 x1) (g_X7_operate x1) := by
  unfold f_X7_operate g_X7_operate
  refine gr_bd (gr_ob 37 (by decide) (by decide) rfl (r_X7_pop)) (fun v1 => ?_)
  refine gr_cb ?_ ?_
  · refine gr_bd (gr_ob 37 (by decide) (by decide) rfl (r_X7_pop)) (fun v28 => ?_)
    refine gr_ck (fun _ => ?_)
    refine gr_it ?_ ?_
    · refine gr_bd (gr_ob 37 (by decide) (by decide) rfl (r_X7_push _)) (fun _ => ?_)
      exact gr_ret _
    · refine gr_it ?_ ?_
      · refine gr_bd (gr_ob 37 (by decide) (by decide) rfl (r_X7_push _)) (fun _ => ?_)
        exact gr_ret _
      · refine gr_it ?_ ?_
        · refine gr_bd (gr_ob 37 (by decide) (by decide) rfl (r_X7_multiply _ _)) (fun _ => ?_)
          exact gr_ret _
        · refine gr_it ?_ ?_
          · refine gr_bd (gr_ob 37 (by decide) (by decide) rfl (r_X7_divide _ _)) (fun _ => ?_)
            exact gr_ret _
          · refine gr_bd (r_X7_holds _ _ _) (fun v111 => ?_)
            refine gr_ck (fun _ => ?_)
            refine gr_let (fun w122 => ?_)
            refine gr_bd (gr_ob 37 (by decide) (by decide) rfl (r_X7_push _)) (fun _ => ?_)
            exact gr_ret _
  · refine gr_ck (fun _ => ?_)
    refine gr_let (fun w23 => ?_)
    refine gr_bd (gr_ob 37 (by decide) (by decide) rfl (r_X7_push _)) (fun _ => ?_)
    exact gr_ret _
def g_X7_work_93 (rec_13 : Int → gM Int) (x1 : Int) (x3 : Int) (x5 : Int) : gM Int :=
  glet ((x5 + 1)) (fun x5_93 => rec_13 x5_93)
set_option maxRecDepth 20000 in
theorem r_X7_work_93 (frec_13 : Int → hf_M Int) (rec_13 : Int → gM Int) (hrec_13 : ∀ s : Int, gr (frec_13 s) (rec_13 s)) (x1 : Int) (x3 : Int) (x5 : Int) : gr (f_X7_work_93 frec_13 37 x1 x3 29 x5) (g_X7_work_93 rec_13 x1 x3 x5) := by
  unfold f_X7_work_93 g_X7_work_93
  refine gr_let (fun x5_93 => ?_)
  exact hrec_13 _
def g_X1_lastStep_o29  : gM Int :=
  gget (-2911) (fun v1 => gcz (v1) ((v1 ≤ 0)) (gret (0)) (gget (-2911) (fun v12 => gal 32 200 ((v12 - 1)) (fun v17 => gret (v17)))))
set_option maxRecDepth 20000 in
theorem r_X1_lastStep_o29  : gr (f_X1_lastStep 29) (g_X1_lastStep_o29 ) := by
  unfold f_X1_lastStep g_X1_lastStep_o29
  refine gr_gf 29 (by decide) (by decide) rfl (by decide) rfl (fun v1 => ?_)
  refine gr_cz ?_ ?_
  · exact gr_ret _
  · refine gr_gfp 29 32 (by decide) (by decide) rfl rfl (by decide) ?_
    refine gr_gf 29 (by decide) (by decide) rfl (by decide) rfl (fun v12 => ?_)
    refine gr_al 32 200 (by decide) (by decide) rfl (by decide) rfl (fun v17 => ?_)
    exact gr_ret _
def g_X1_lastBroke_o29  : gM Int :=
  gget (-2911) (fun v1 => gcz (v1) ((v1 ≤ 0)) (gret (0)) (gget (-2911) (fun v12 => gal 33 200 ((v12 - 1)) (fun v17 => gret (v17)))))
set_option maxRecDepth 20000 in
theorem r_X1_lastBroke_o29  : gr (f_X1_lastBroke 29) (g_X1_lastBroke_o29 ) := by
  unfold f_X1_lastBroke g_X1_lastBroke_o29
  refine gr_gf 29 (by decide) (by decide) rfl (by decide) rfl (fun v1 => ?_)
  refine gr_cz ?_ ?_
  · exact gr_ret _
  · refine gr_gfp 29 33 (by decide) (by decide) rfl rfl (by decide) ?_
    refine gr_gf 29 (by decide) (by decide) rfl (by decide) rfl (fun v12 => ?_)
    refine gr_al 33 200 (by decide) (by decide) rfl (by decide) rfl (fun v17 => ?_)
    exact gr_ret _
def g_X7_valueOfName (x0 : Int) : gM Int :=
  gck (hf_inI x0) (git ((x0 = 12)) (gget (-2909) (fun v49 => gck (hf_inI v49) (gret (v49)))) (git ((x0 = 13)) (gget (-2910) (fun v55 => gck (hf_inI v55) (gret (v55)))) (git ((x0 = 14)) (gget (-2910) (fun v61 => gget (-2909) (fun v65 => gck (hf_inI (v61 - v65)) (gret ((v61 - v65)))))) (git ((x0 = 15)) (gget (-2911) (fun v72 => gck (hf_inI v72) (gret (v72)))) (git ((x0 = 16)) (gbd (g_X1_lastStep_o29) (fun v78 => gck (hf_inI v78) (gret (v78)))) (git ((x0 = 17)) (gbd (g_X1_lastBroke_o29) (fun v84 => gck (hf_inI v84) (gret (v84)))) (git ((x0 = 18)) (gal 30 3 (0) (fun v94 => gck (hf_inI v94) (gret (v94)))) (git ((x0 = 19)) (gal 30 3 (1) (fun v102 => gck (hf_inI v102) (gret (v102)))) (gal 30 3 (2) (fun v110 => gck (hf_inI v110) (gret (v110))))))))))))
set_option maxRecDepth 20000 in
theorem r_X7_valueOfName (x0 : Int) : gr (f_X7_valueOfName x0 29) (g_X7_valueOfName x0) := by
  unfold f_X7_valueOfName g_X7_valueOfName
  refine gr_ck (fun _ => ?_)
  refine gr_it ?_ ?_
  · refine gr_gf 29 (by decide) (by decide) rfl (by decide) rfl (fun v49 => ?_)
    refine gr_ck (fun _ => ?_)
    exact gr_ret _
  · refine gr_it ?_ ?_
    · refine gr_gf 29 (by decide) (by decide) rfl (by decide) rfl (fun v55 => ?_)
      refine gr_ck (fun _ => ?_)
      exact gr_ret _
    · refine gr_it ?_ ?_
      · refine gr_gf 29 (by decide) (by decide) rfl (by decide) rfl (fun v61 => ?_)
        refine gr_gf 29 (by decide) (by decide) rfl (by decide) rfl (fun v65 => ?_)
        refine gr_ck (fun _ => ?_)
        exact gr_ret _
      · refine gr_it ?_ ?_
        · refine gr_gf 29 (by decide) (by decide) rfl (by decide) rfl (fun v72 => ?_)
          refine gr_ck (fun _ => ?_)
          exact gr_ret _
        · refine gr_it ?_ ?_
          · refine gr_bd (gr_ob 29 (by decide) (by decide) rfl (r_X1_lastStep_o29)) (fun v78 => ?_)
            refine gr_ck (fun _ => ?_)
            exact gr_ret _
          · refine gr_it ?_ ?_
            · refine gr_bd (gr_ob 29 (by decide) (by decide) rfl (r_X1_lastBroke_o29)) (fun v84 => ?_)
              refine gr_ck (fun _ => ?_)
              exact gr_ret _
            · refine gr_it ?_ ?_
              · refine gr_gfp 29 30 (by decide) (by decide) rfl rfl (by decide) ?_
                refine gr_al 30 3 (by decide) (by decide) rfl (by decide) rfl (fun v94 => ?_)
                refine gr_ck (fun _ => ?_)
                exact gr_ret _
              · refine gr_it ?_ ?_
                · refine gr_gfp 29 30 (by decide) (by decide) rfl rfl (by decide) ?_
                  refine gr_al 30 3 (by decide) (by decide) rfl (by decide) rfl (fun v102 => ?_)
                  refine gr_ck (fun _ => ?_)
                  exact gr_ret _
                · refine gr_gfp 29 30 (by decide) (by decide) rfl rfl (by decide) ?_
                  refine gr_al 30 3 (by decide) (by decide) rfl (by decide) rfl (fun v110 => ?_)
                  refine gr_ck (fun _ => ?_)
                  exact gr_ret _
def gB_X7_work_13 (x1 : Int) (x3 : Int) (rec_13 : Int → gM Int) (x5 : Int) : gM Int :=
  gcb (x5) (x3) ((x3 ≤ x5)) (g_X7_work_99) (gget (-3702) (fun v20 => gcz (v20) ((¬ (v20 = 0))) (g_X7_work_99) (gck (x1 = 18 ∨ x1 = 23) (gal (x1 + 4) 64 (x5) (fun v32 => gcb (v32) (1000) ((1000 ≤ v32)) (gbd (g_X9_isName (v32 - 1000)) (fun v59 => gcz (v59) ((v59 = 0)) (gbd (g_X7_operate (v32 - 1000)) (fun _ => g_X7_work_93 rec_13 x1 x3 x5)) (gbd (g_X7_valueOfName (v32 - 1000)) (fun v74 => gbd (g_X7_push v74) (fun _ => g_X7_work_93 rec_13 x1 x3 x5))))) (gck (hf_inI v32) (gbd (g_X7_push v32) (fun _ => g_X7_work_93 rec_13 x1 x3 x5))))))))
set_option maxRecDepth 20000 in
theorem rB_X7_work_13 (x1 : Int) (x3 : Int) (frec_13 : Int → hf_M Int) (rec_13 : Int → gM Int) (hrec_13 : ∀ s : Int, gr (frec_13 s) (rec_13 s)) (x5 : Int) : gr (B_X7_work_13 37 x1 x3 29 frec_13 x5) (gB_X7_work_13 x1 x3 rec_13 x5) := by
  unfold B_X7_work_13 gB_X7_work_13
  refine gr_cb ?_ ?_
  · exact r_X7_work_99
  · refine gr_gf 37 (by decide) (by decide) rfl (by decide) rfl (fun v20 => ?_)
    refine gr_cz ?_ ?_
    · exact r_X7_work_99
    · refine gr_gfpp 4 (by decide) (by decide) (fun hp => ?_)
      refine gr_alp (by decide) (by decide) rfl rfl (by assumption) (fun v32 => ?_)
      refine gr_cb ?_ ?_
      · refine gr_bd (r_X9_isName _) (fun v59 => ?_)
        refine gr_cz ?_ ?_
        · refine gr_bd (gr_ob 37 (by decide) (by decide) rfl (r_X7_operate _)) (fun _ => ?_)
          exact r_X7_work_93 frec_13 rec_13 hrec_13 _ _ _
        · refine gr_bd (r_X7_valueOfName _) (fun v74 => ?_)
          refine gr_bd (gr_ob 37 (by decide) (by decide) rfl (r_X7_push _)) (fun _ => ?_)
          exact r_X7_work_93 frec_13 rec_13 hrec_13 _ _ _
      · refine gr_ck (fun _ => ?_)
        refine gr_bd (gr_ob 37 (by decide) (by decide) rfl (r_X7_push _)) (fun _ => ?_)
        exact r_X7_work_93 frec_13 rec_13 hrec_13 _ _ _
def g_X7_work_13 (x1 : Int) (x3 : Int) (x5 : Int) : gM Int :=
  gfx (fun rec s => gB_X7_work_13 x1 x3 rec s) hf_N x5
set_option maxRecDepth 20000 in
theorem r_X7_work_13 (x1 : Int) (x3 : Int) (x5 : Int) : gr (f_X7_work_13 37 x1 x3 29 x5) (g_X7_work_13 x1 x3 x5) := by
  unfold f_X7_work_13 g_X7_work_13
  refine gr_fx (fun frec rec hrec s => ?_) _ _
  exact rB_X7_work_13 _ _ _ _ hrec _
def g_X7_work (x1 : Int) (x2 : Int) (x3 : Int) : gM Int :=
  gput (-3701) (0) (gput (-3702) (0) (g_X7_work_13 x1 x3 x2))
set_option maxRecDepth 20000 in
theorem r_X7_work (x1 : Int) (x2 : Int) (x3 : Int) : gr (f_X7_work 37 x1 x2 x3 29) (g_X7_work x1 x2 x3) := by
  unfold f_X7_work g_X7_work
  refine gr_pf 37 (by decide) (by decide) rfl (by decide) (by decide) rfl rfl ?_
  refine gr_pf 37 (by decide) (by decide) rfl (by decide) (by decide) rfl rfl ?_
  exact r_X7_work_13 _ _ _
def gB_X6_lineThatHolds_2 (x1 : Int) (rec_2 : Int → gM Int) (x2 : Int) : gM Int :=
  gck (x1 = 18 ∨ x1 = 23) (gget (-(100 * x1 + 0)) (fun v4 => gcb (x2) (v4) ((v4 ≤ x2)) (gret ((-1))) (gck (x1 = 18 ∨ x1 = 23) (gbd (g_X4_hasCondition x1 x2) (fun v12 => gcz (v12) ((¬ (v12 = 0))) (gck (x1 = 18 ∨ x1 = 23) (gbd (g_X4_conditionFrom x1 x2) (fun v27 => gck (x1 = 18 ∨ x1 = 23) (gal (x1 + 2) 12 (x2) (fun v35 => gbd (g_X7_work x1 v27 v35) (fun v40 => gcl (v40) (0) ((v40 = 0)) (glet ((x2 + 1)) (fun x2_50 => rec_2 x2_50)) (gret (x2)))))))) (gret (x2)))))))
set_option maxRecDepth 20000 in
theorem rB_X6_lineThatHolds_2 (x1 : Int) (frec_2 : Int → hf_M Int) (rec_2 : Int → gM Int) (hrec_2 : ∀ s : Int, gr (frec_2 s) (rec_2 s)) (x2 : Int) : gr (B_X6_lineThatHolds_2 28 x1 frec_2 x2) (gB_X6_lineThatHolds_2 x1 rec_2 x2) := by
  unfold B_X6_lineThatHolds_2 gB_X6_lineThatHolds_2
  refine gr_gfps (by decide) rfl (fun hp v4 => ?_)
  refine gr_cb ?_ ?_
  · exact gr_ret _
  · refine gr_bdp (fun hp => r_X4_hasCondition _ _) (fun v12 => ?_)
    refine gr_cz ?_ ?_
    · refine gr_gfp 28 37 (by decide) (by decide) rfl rfl (by decide) ?_
      refine gr_bdp (fun hp => r_X4_conditionFrom _ _) (fun v27 => ?_)
      refine gr_gfpp 2 (by decide) (by decide) (fun hp => ?_)
      refine gr_alp (by decide) (by decide) rfl rfl (by assumption) (fun v35 => ?_)
      refine gr_gfp 28 29 (by decide) (by decide) rfl rfl (by decide) ?_
      refine gr_bd (gr_ob 37 (by decide) (by decide) rfl (r_X7_work _ _ _)) (fun v40 => ?_)
      refine gr_cl ?_ ?_
      · refine gr_let (fun x2_50 => ?_)
        exact hrec_2 _
      · exact gr_ret _
    · exact gr_ret _
def g_X6_lineThatHolds_2 (x1 : Int) (x2 : Int) : gM Int :=
  gfx (fun rec s => gB_X6_lineThatHolds_2 x1 rec s) hf_N x2
set_option maxRecDepth 20000 in
theorem r_X6_lineThatHolds_2 (x1 : Int) (x2 : Int) : gr (f_X6_lineThatHolds_2 28 x1 x2) (g_X6_lineThatHolds_2 x1 x2) := by
  unfold f_X6_lineThatHolds_2 g_X6_lineThatHolds_2
  refine gr_fx (fun frec rec hrec s => ?_) _ _
  exact rB_X6_lineThatHolds_2 _ _ _ hrec _
def g_X6_lineThatHolds (x1 : Int) : gM Int :=
  g_X6_lineThatHolds_2 x1 0
set_option maxRecDepth 20000 in
theorem r_X6_lineThatHolds (x1 : Int) : gr (f_X6_lineThatHolds 28 x1) (g_X6_lineThatHolds x1) := by
  unfold f_X6_lineThatHolds g_X6_lineThatHolds
  exact r_X6_lineThatHolds_2 _ _
def g_X6_letFall_30  : gM Int :=
  gput (-2802) (3) (gret (0))
set_option maxRecDepth 20000 in
theorem r_X6_letFall_30  : gr (f_X6_letFall_30 28) (g_X6_letFall_30 ) := by
  unfold f_X6_letFall_30 g_X6_letFall_30
  refine gr_pf 28 (by decide) (by decide) rfl (by decide) (by decide) rfl rfl ?_
  exact gr_ret _
def g_X8_hasStep (x1 : Int) : gM Int :=
  gcb (x1) (1) ((x1 < 1)) (gret (0)) (gget (-200) (fun v7 => gcb (x1) (v7) ((v7 < x1)) (gret (0)) (gret (1))))
set_option maxRecDepth 20000 in
theorem r_X8_hasStep (x1 : Int) : gr (f_X8_hasStep 2 x1) (g_X8_hasStep x1) := by
  unfold f_X8_hasStep g_X8_hasStep
  refine gr_cb ?_ ?_
  · exact gr_ret _
  · refine gr_gf 2 (by decide) (by decide) rfl (by decide) rfl (fun v7 => ?_)
    refine gr_cb ?_ ?_
    · exact gr_ret _
    · exact gr_ret _
def g_X1_canFall_o29 (x2 : Int) (x3 : Int) : gM Int :=
  gbd (g_X8_hasKind x2) (fun v2 => gcz (v2) ((v2 = 0)) (gret (0)) (gbd (g_X8_hasStep x3) (fun v10 => gcz (v10) ((v10 = 0)) (gret (0)) (gal 30 3 (x2) (fun v21 => gcz (v21) ((v21 ≤ 0)) (gret (0)) (gget (-2911) (fun v26 => gcb (v26) (200) ((200 ≤ v26)) (gret (0)) (gret (1)))))))))
set_option maxRecDepth 20000 in
theorem r_X1_canFall_o29 (x2 : Int) (x3 : Int) : gr (f_X1_canFall 29 2 x2 x3) (g_X1_canFall_o29 x2 x3) := by
  unfold f_X1_canFall g_X1_canFall_o29
  refine gr_bd (gr_ob 2 (by decide) (by decide) rfl (r_X8_hasKind _)) (fun v2 => ?_)
  refine gr_cz ?_ ?_
  · exact gr_ret _
  · refine gr_bd (gr_ob 2 (by decide) (by decide) rfl (r_X8_hasStep _)) (fun v10 => ?_)
    refine gr_cz ?_ ?_
    · exact gr_ret _
    · refine gr_gfp 29 30 (by decide) (by decide) rfl rfl (by decide) ?_
      refine gr_al 30 3 (by decide) (by decide) rfl (by decide) rfl (fun v21 => ?_)
      refine gr_cz ?_ ?_
      · exact gr_ret _
      · refine gr_gf 29 (by decide) (by decide) rfl (by decide) rfl (fun v26 => ?_)
        refine gr_gfp 29 200 (by decide) (by decide) rfl rfl (by decide) ?_
        refine gr_cb ?_ ?_
        · exact gr_ret _
        · exact gr_ret _
def g_X8_breaks (x1 : Int) (x2 : Int) (x3 : Int) : gM Int :=
  gal 3 3 (x1) (fun v7 => gck ((hf_inI x2) ∧ (hf_inI (x3 + v7))) (glet ((if (x2 ≤ (x3 + v7)) then 0 else 1)) (fun w17 => gck ((w17 = 0) ∨ (w17 = 1)) (gret (w17)))))
set_option maxRecDepth 20000 in
theorem r_X8_breaks (x1 : Int) (x2 : Int) (x3 : Int) : gr (f_X8_breaks 2 x1 x2 x3) (g_X8_breaks x1 x2 x3) := by
  unfold f_X8_breaks g_X8_breaks
  refine gr_gfp 2 3 (by decide) (by decide) rfl rfl (by decide) ?_
  refine gr_al 3 3 (by decide) (by decide) rfl (by decide) rfl (fun v7 => ?_)
  refine gr_ck (fun _ => ?_)
  refine gr_let (fun w17 => ?_)
  refine gr_ck (fun _ => ?_)
  exact gr_ret _
def g_X8_costOf_25 (s0 : Int) (s1 : Int) : gM Int :=
  gret ((s0 + s1))
set_option maxRecDepth 20000 in
theorem r_X8_costOf_25 (s0 : Int) (s1 : Int) : gr (f_X8_costOf_25 s0 s1) (g_X8_costOf_25 s0 s1) := by
  unfold f_X8_costOf_25 g_X8_costOf_25
  exact gr_ret _
def g_X8_costOf (x1 : Int) (x2 : Int) (x3 : Int) : gM Int :=
  gget (-204) (fun v1 => gget (-205) (fun v5 => gcz (x3) ((x3 = 0)) (g_X8_costOf_25 (v1 + (v5 * x2)) 0) (gal 5 3 (x1) (fun v20 => g_X8_costOf_25 (v1 + (v5 * x2)) v20))))
set_option maxRecDepth 20000 in
theorem r_X8_costOf (x1 : Int) (x2 : Int) (x3 : Int) : gr (f_X8_costOf 2 x1 x2 x3) (g_X8_costOf x1 x2 x3) := by
  unfold f_X8_costOf g_X8_costOf
  refine gr_gf 2 (by decide) (by decide) rfl (by decide) rfl (fun v1 => ?_)
  refine gr_gf 2 (by decide) (by decide) rfl (by decide) rfl (fun v5 => ?_)
  refine gr_cz ?_ ?_
  · exact r_X8_costOf_25 _ _
  · refine gr_gfp 2 5 (by decide) (by decide) rfl rfl (by decide) ?_
    refine gr_al 5 3 (by decide) (by decide) rfl (by decide) rfl (fun v20 => ?_)
    exact r_X8_costOf_25 _ _
def g_X1_letFall_166_o29 (x2 : Int) (x3 : Int) (x4 : Int) : gM Int :=
  gget (-2913) (fun v168 => gbd (g_X8_costOf x2 x3 x4) (fun v176 => gput (-2913) ((v168 + v176)) (gck ((x4 = 0) ∨ (x4 = 1)) (gret (x4)))))
set_option maxRecDepth 20000 in
theorem r_X1_letFall_166_o29 (x2 : Int) (x3 : Int) (x4 : Int) : gr (f_X1_letFall_166 29 2 x2 x3 x4) (g_X1_letFall_166_o29 x2 x3 x4) := by
  unfold f_X1_letFall_166 g_X1_letFall_166_o29
  refine gr_gf 29 (by decide) (by decide) rfl (by decide) rfl (fun v168 => ?_)
  refine gr_bd (gr_ob 2 (by decide) (by decide) rfl (r_X8_costOf _ _ _)) (fun v176 => ?_)
  refine gr_pf 29 (by decide) (by decide) rfl (by decide) (by decide) rfl rfl ?_
  refine gr_ck (fun _ => ?_)
  exact gr_ret _
def g_X1_letFall_o29 (x2 : Int) (x3 : Int) : gM Int :=
  gget (-2908) (fun v4 => gbd (g_X8_breaks x2 x3 v4) (fun v7 => gget (-2911) (fun v17 => gas 31 200 (v17) (x2) (gget (-2911) (fun v27 => gas 32 200 (v27) (x3) (gget (-2911) (fun v37 => gck (hf_inI v7) (glet ((if (v7 = 0) then 0 else 1)) (fun w50 => gas 33 200 (v37) (w50) (gget (-2911) (fun v56 => gget (-2909) (fun v60 => gas 34 200 (v56) (v60) (gget (-2911) (fun v69 => gget (-2910) (fun v73 => gas 35 200 (v69) (v73) (gget (-2911) (fun v82 => gget (-2913) (fun v86 => gas 36 200 (v82) (v86) (gget (-2911) (fun v92 => gput (-2911) ((v92 + 1)) (gal 3 3 (x2) (fun v106 => glet ((x3 - v106)) (fun x5_108 => gcz (v7) ((v7 = 0)) (gget (-2909) (fun v155 => gck ((hf_inI v155) ∧ (hf_inI x5_108)) (glet ((max v155 x5_108)) (fun v160 => gput (-2909) (v160) (g_X1_letFall_166_o29 x2 x3 v7))))) (gget (-2910) (fun v117 => gck ((hf_inI v117) ∧ (hf_inI (x5_108 - 1))) (glet ((min v117 (x5_108 - 1))) (fun v124 => gput (-2910) (v124) (gal 30 3 (x2) (fun v136 => gas 30 3 (x2) ((v136 - 1)) (gget (-2912) (fun v142 => gput (-2912) ((v142 + 1)) (g_X1_letFall_166_o29 x2 x3 v7))))))))))))))))))))))))))))))))
set_option maxRecDepth 20000 in
theorem r_X1_letFall_o29 (x2 : Int) (x3 : Int) : gr (f_X1_letFall 29 2 x2 x3) (g_X1_letFall_o29 x2 x3) := by
  unfold f_X1_letFall g_X1_letFall_o29
  refine gr_gf 29 (by decide) (by decide) rfl (by decide) rfl (fun v4 => ?_)
  refine gr_bd (gr_ob 2 (by decide) (by decide) rfl (r_X8_breaks _ _ _)) (fun v7 => ?_)
  refine gr_gfp 29 31 (by decide) (by decide) rfl rfl (by decide) ?_
  refine gr_gf 29 (by decide) (by decide) rfl (by decide) rfl (fun v17 => ?_)
  refine gr_as 31 200 (by decide) (by decide) rfl (by decide) rfl rfl ?_
  refine gr_gfp 29 32 (by decide) (by decide) rfl rfl (by decide) ?_
  refine gr_gf 29 (by decide) (by decide) rfl (by decide) rfl (fun v27 => ?_)
  refine gr_as 32 200 (by decide) (by decide) rfl (by decide) rfl rfl ?_
  refine gr_gfp 29 33 (by decide) (by decide) rfl rfl (by decide) ?_
  refine gr_gf 29 (by decide) (by decide) rfl (by decide) rfl (fun v37 => ?_)
  refine gr_ck (fun _ => ?_)
  refine gr_let (fun w50 => ?_)
  refine gr_as 33 200 (by decide) (by decide) rfl (by decide) rfl rfl ?_
  refine gr_gfp 29 34 (by decide) (by decide) rfl rfl (by decide) ?_
  refine gr_gf 29 (by decide) (by decide) rfl (by decide) rfl (fun v56 => ?_)
  refine gr_gf 29 (by decide) (by decide) rfl (by decide) rfl (fun v60 => ?_)
  refine gr_as 34 200 (by decide) (by decide) rfl (by decide) rfl rfl ?_
  refine gr_gfp 29 35 (by decide) (by decide) rfl rfl (by decide) ?_
  refine gr_gf 29 (by decide) (by decide) rfl (by decide) rfl (fun v69 => ?_)
  refine gr_gf 29 (by decide) (by decide) rfl (by decide) rfl (fun v73 => ?_)
  refine gr_as 35 200 (by decide) (by decide) rfl (by decide) rfl rfl ?_
  refine gr_gfp 29 36 (by decide) (by decide) rfl rfl (by decide) ?_
  refine gr_gf 29 (by decide) (by decide) rfl (by decide) rfl (fun v82 => ?_)
  refine gr_gf 29 (by decide) (by decide) rfl (by decide) rfl (fun v86 => ?_)
  refine gr_as 36 200 (by decide) (by decide) rfl (by decide) rfl rfl ?_
  refine gr_gf 29 (by decide) (by decide) rfl (by decide) rfl (fun v92 => ?_)
  refine gr_pf 29 (by decide) (by decide) rfl (by decide) (by decide) rfl rfl ?_
  refine gr_gfp 2 3 (by decide) (by decide) rfl rfl (by decide) ?_
  refine gr_al 3 3 (by decide) (by decide) rfl (by decide) rfl (fun v106 => ?_)
  refine gr_let (fun x5_108 => ?_)
  refine gr_cz ?_ ?_
  · refine gr_gf 29 (by decide) (by decide) rfl (by decide) rfl (fun v155 => ?_)
    refine gr_ck (fun _ => ?_)
    refine gr_let (fun v160 => ?_)
    refine gr_pf 29 (by decide) (by decide) rfl (by decide) (by decide) rfl rfl ?_
    exact r_X1_letFall_166_o29 _ _ _
  · refine gr_gf 29 (by decide) (by decide) rfl (by decide) rfl (fun v117 => ?_)
    refine gr_ck (fun _ => ?_)
    refine gr_let (fun v124 => ?_)
    refine gr_pf 29 (by decide) (by decide) rfl (by decide) (by decide) rfl rfl ?_
    refine gr_gfp 29 30 (by decide) (by decide) rfl rfl (by decide) ?_
    refine gr_al 30 3 (by decide) (by decide) rfl (by decide) rfl (fun v136 => ?_)
    refine gr_as 30 3 (by decide) (by decide) rfl (by decide) rfl rfl ?_
    refine gr_gf 29 (by decide) (by decide) rfl (by decide) rfl (fun v142 => ?_)
    refine gr_pf 29 (by decide) (by decide) rfl (by decide) (by decide) rfl rfl ?_
    exact r_X1_letFall_166_o29 _ _ _
def g_X6_letFall (x2 : Int) (x3 : Int) : gM Int :=
  gcl (x3) (1) ((x3 < 1)) (g_X6_letFall_30) (gget (-200) (fun v8 => gck (hf_inI v8) (gcl (x3) (v8) ((v8 < x3)) (g_X6_letFall_30) (gbd (g_X1_canFall_o29 x2 x3) (fun v24 => gcz (v24) ((¬ (v24 = 0))) (gbd (g_X1_letFall_o29 x2 x3) (fun v46 => gret (0))) (g_X6_letFall_30))))))
set_option maxRecDepth 20000 in
theorem r_X6_letFall (x2 : Int) (x3 : Int) : gr (f_X6_letFall 28 2 x2 x3) (g_X6_letFall x2 x3) := by
  unfold f_X6_letFall g_X6_letFall
  refine gr_cl ?_ ?_
  · exact r_X6_letFall_30
  · refine gr_gf 2 (by decide) (by decide) rfl (by decide) rfl (fun v8 => ?_)
    refine gr_ck (fun _ => ?_)
    refine gr_cl ?_ ?_
    · exact r_X6_letFall_30
    · refine gr_gfp 28 29 (by decide) (by decide) rfl rfl (by decide) ?_
      refine gr_bd (gr_ob 29 (by decide) (by decide) rfl (r_X1_canFall_o29 _ _)) (fun v24 => ?_)
      refine gr_cz ?_ ?_
      · refine gr_gfp 28 29 (by decide) (by decide) rfl rfl (by decide) ?_
        refine gr_bd (gr_ob 29 (by decide) (by decide) rfl (r_X1_letFall_o29 _ _)) (fun v46 => ?_)
        exact gr_ret _
      · exact r_X6_letFall_30
def g_X6_takeTurn (x2 : Int) : gM Int :=
  gbd (g_X6_lineThatHolds x2) (fun v2 => gcb (v2) ((-1)) ((¬ (v2 = (-1)))) (gck (x2 = 18 ∨ x2 = 23) (gal (x2 + 2) 12 (v2) (fun v27 => gck (x2 = 18 ∨ x2 = 23) (gal (x2 + 3) 12 (v2) (fun v33 => gbd (g_X7_work x2 v27 v33) (fun v38 => gget (-3702) (fun v47 => gcz (v47) ((v47 = 0)) (gck (x2 = 18 ∨ x2 = 23) (gal (x2 + 1) 12 (v2) (fun v66 => gcb (v66) (3) ((¬ (v66 = 3))) (gck (x2 = 18 ∨ x2 = 23) (gal (x2 + 1) 12 (v2) (fun v110 => gbd (g_X6_letFall v110 v38) (fun _ => gret (0))))) (gput (-2803) (v38) (gget (-2908) (fun v84 => gck (hf_inI v84) (gck ((hf_inL v38) ∧ (hf_inL v84)) (glet ((if (¬ (v38 = v84)) then 2 else 1)) (fun w97 => gput (-2802) (w97) (gret (0))))))))))) (gput (-2802) (3) (gret (0)))))))))) (gput (-2802) (3) (gret (0))))
set_option maxRecDepth 20000 in
theorem r_X6_takeTurn (x2 : Int) : gr (f_X6_takeTurn 28 2 x2) (g_X6_takeTurn x2) := by
  unfold f_X6_takeTurn g_X6_takeTurn
  refine gr_bd (gr_ob 28 (by decide) (by decide) rfl (r_X6_lineThatHolds _)) (fun v2 => ?_)
  refine gr_cb ?_ ?_
  · refine gr_gfp 28 37 (by decide) (by decide) rfl rfl (by decide) ?_
    refine gr_gfpp 2 (by decide) (by decide) (fun hp => ?_)
    refine gr_alp (by decide) (by decide) rfl rfl (by assumption) (fun v27 => ?_)
    refine gr_gfpp 3 (by decide) (by decide) (fun hp => ?_)
    refine gr_alp (by decide) (by decide) rfl rfl (by assumption) (fun v33 => ?_)
    refine gr_gfp 28 29 (by decide) (by decide) rfl rfl (by decide) ?_
    refine gr_bd (gr_ob 37 (by decide) (by decide) rfl (r_X7_work _ _ _)) (fun v38 => ?_)
    refine gr_gfp 28 37 (by decide) (by decide) rfl rfl (by decide) ?_
    refine gr_gf 37 (by decide) (by decide) rfl (by decide) rfl (fun v47 => ?_)
    refine gr_cz ?_ ?_
    · refine gr_gfpp 1 (by decide) (by decide) (fun hp => ?_)
      refine gr_alp (by decide) (by decide) rfl rfl (by assumption) (fun v66 => ?_)
      refine gr_cb ?_ ?_
      · refine gr_gfpp 1 (by decide) (by decide) (fun hp => ?_)
        refine gr_alp (by decide) (by decide) rfl rfl (by assumption) (fun v110 => ?_)
        refine gr_bd (gr_ob 28 (by decide) (by decide) rfl (r_X6_letFall _ _)) (fun _ => ?_)
        exact gr_ret _
      · refine gr_pf 28 (by decide) (by decide) rfl (by decide) (by decide) rfl rfl ?_
        refine gr_gfp 28 29 (by decide) (by decide) rfl rfl (by decide) ?_
        refine gr_gf 29 (by decide) (by decide) rfl (by decide) rfl (fun v84 => ?_)
        refine gr_ck (fun _ => ?_)
        refine gr_ck (fun _ => ?_)
        refine gr_let (fun w97 => ?_)
        refine gr_pf 28 (by decide) (by decide) rfl (by decide) (by decide) rfl rfl ?_
        exact gr_ret _
    · refine gr_pf 28 (by decide) (by decide) rfl (by decide) (by decide) rfl rfl ?_
      exact gr_ret _
  · refine gr_pf 28 (by decide) (by decide) rfl (by decide) (by decide) rfl rfl ?_
    exact gr_ret _
def gB_X6_run_24 (x2 : Int) (x3 : Int) (rec_24 : Int → gM Int) (x4 : Int) : gM Int :=
  gcb (x4) (201) ((201 < x4)) (gret (0)) (gget (-2802) (fun v33 => gcb (v33) ((-1)) ((¬ (v33 = (-1)))) (gret (0)) (gget (-2909) (fun v44 => gget (-2910) (fun v51 => gcb (v44) (v51) ((v51 ≤ v44)) (gput (-2802) (0) (gck (hf_inI x3) (gput (-2803) (x3) (g_X6_run_77 rec_24 x2 x3 x4)))) (gbd (g_X6_takeTurn x2) (fun _ => g_X6_run_77 rec_24 x2 x3 x4)))))))
set_option maxRecDepth 20000 in
theorem rB_X6_run_24 (x2 : Int) (x3 : Int) (frec_24 : Int → hf_M Int) (rec_24 : Int → gM Int) (hrec_24 : ∀ s : Int, gr (frec_24 s) (rec_24 s)) (x4 : Int) : gr (B_X6_run_24 28 2 x2 x3 frec_24 x4) (gB_X6_run_24 x2 x3 rec_24 x4) := by
  unfold B_X6_run_24 gB_X6_run_24
  refine gr_cb ?_ ?_
  · exact gr_ret _
  · refine gr_gf 28 (by decide) (by decide) rfl (by decide) rfl (fun v33 => ?_)
    refine gr_cb ?_ ?_
    · exact gr_ret _
    · refine gr_gfp 28 29 (by decide) (by decide) rfl rfl (by decide) ?_
      refine gr_gf 29 (by decide) (by decide) rfl (by decide) rfl (fun v44 => ?_)
      refine gr_gfp 28 29 (by decide) (by decide) rfl rfl (by decide) ?_
      refine gr_gf 29 (by decide) (by decide) rfl (by decide) rfl (fun v51 => ?_)
      refine gr_cb ?_ ?_
      · refine gr_pf 28 (by decide) (by decide) rfl (by decide) (by decide) rfl rfl ?_
        refine gr_ck (fun _ => ?_)
        refine gr_pf 28 (by decide) (by decide) rfl (by decide) (by decide) rfl rfl ?_
        exact r_X6_run_77 frec_24 rec_24 hrec_24 _ _ _
      · refine gr_bd (gr_ob 28 (by decide) (by decide) rfl (r_X6_takeTurn _)) (fun _ => ?_)
        exact r_X6_run_77 frec_24 rec_24 hrec_24 _ _ _
def g_X6_run_24 (x2 : Int) (x3 : Int) (x4 : Int) : gM Int :=
  gfx (fun rec s => gB_X6_run_24 x2 x3 rec s) hf_N x4
set_option maxRecDepth 20000 in
theorem r_X6_run_24 (x2 : Int) (x3 : Int) (x4 : Int) : gr (f_X6_run_24 28 2 x2 x3 x4) (g_X6_run_24 x2 x3 x4) := by
  unfold f_X6_run_24 g_X6_run_24
  refine gr_fx (fun frec rec hrec s => ?_) _ _
  exact rB_X6_run_24 _ _ _ _ hrec _
def g_X6_run (x2 : Int) (x3 : Int) : gM Int :=
  gbd (g_X1_start_o29 x3) (fun _ => gput (-2802) ((-1)) (gput (-2803) ((-1)) (g_X6_run_24 x2 x3 0)))
set_option maxRecDepth 20000 in
theorem r_X6_run (x2 : Int) (x3 : Int) : gr (f_X6_run 28 2 x2 x3) (g_X6_run x2 x3) := by
  unfold f_X6_run g_X6_run
  refine gr_gfp 28 29 (by decide) (by decide) rfl rfl (by decide) ?_
  refine gr_bd (gr_ob 29 (by decide) (by decide) rfl (r_X1_start_o29 _)) (fun _ => ?_)
  refine gr_pf 28 (by decide) (by decide) rfl (by decide) (by decide) rfl rfl ?_
  refine gr_pf 28 (by decide) (by decide) rfl (by decide) (by decide) rfl rfl ?_
  exact r_X6_run_24 _ _ _
def g_X11_tried (x1 : Int) (x2 : Int) : gM Int :=
  gget (-106) (fun v1 => gcz (v1) ((¬ (v1 = 0))) (gbd (g_X8_hasStrength x1) (fun v16 => gcz (v16) ((v16 = 0)) (g_X11_tried_30) (gbd (g_X11_isWithin x2 4) (fun v24 => gcz (v24) ((¬ (v24 = 0))) (gget (-104) (fun v43 => gbd (g_X6_run v43 x1) (fun _ => gck (hf_inI x2) (git ((x2 = 0)) (gget (-2802) (fun v84 => gck (hf_inI v84) (gret (v84)))) (git ((x2 = 1)) (gget (-2911) (fun v96 => gck (hf_inI v96) (gret (v96)))) (git ((x2 = 2)) (gget (-2912) (fun v108 => gck (hf_inI v108) (gret (v108)))) (git ((x2 = 3)) (gget (-2913) (fun v120 => gck (hf_inI v120) (gret (v120)))) (gget (-2803) (fun v129 => gret (v129)))))))))) (g_X11_tried_30))))) (gret ((-2))))
set_option maxRecDepth 20000 in
theorem r_X11_tried (x1 : Int) (x2 : Int) : gr (f_X11_tried 1 x1 x2) (g_X11_tried x1 x2) := by
  unfold f_X11_tried g_X11_tried
  refine gr_gf 1 (by decide) (by decide) rfl (by decide) rfl (fun v1 => ?_)
  refine gr_cz ?_ ?_
  · refine gr_gfp 1 2 (by decide) (by decide) rfl rfl (by decide) ?_
    refine gr_bd (gr_ob 2 (by decide) (by decide) rfl (r_X8_hasStrength _)) (fun v16 => ?_)
    refine gr_cz ?_ ?_
    · exact r_X11_tried_30
    · refine gr_bd (r_X11_isWithin _ _) (fun v24 => ?_)
      refine gr_cz ?_ ?_
      · refine gr_gfp 1 28 (by decide) (by decide) rfl rfl (by decide) ?_
        refine gr_gfp 1 2 (by decide) (by decide) rfl rfl (by decide) ?_
        refine gr_gf 1 (by decide) (by decide) rfl (by decide) rfl (fun v43 => ?_)
        refine gr_bd (gr_ob 28 (by decide) (by decide) rfl (r_X6_run _ _)) (fun _ => ?_)
        refine gr_ck (fun _ => ?_)
        refine gr_it ?_ ?_
        · refine gr_gfp 1 28 (by decide) (by decide) rfl rfl (by decide) ?_
          refine gr_gf 28 (by decide) (by decide) rfl (by decide) rfl (fun v84 => ?_)
          refine gr_ck (fun _ => ?_)
          exact gr_ret _
        · refine gr_it ?_ ?_
          · refine gr_gfp 1 28 (by decide) (by decide) rfl rfl (by decide) ?_
            refine gr_gfp 28 29 (by decide) (by decide) rfl rfl (by decide) ?_
            refine gr_gf 29 (by decide) (by decide) rfl (by decide) rfl (fun v96 => ?_)
            refine gr_ck (fun _ => ?_)
            exact gr_ret _
          · refine gr_it ?_ ?_
            · refine gr_gfp 1 28 (by decide) (by decide) rfl rfl (by decide) ?_
              refine gr_gfp 28 29 (by decide) (by decide) rfl rfl (by decide) ?_
              refine gr_gf 29 (by decide) (by decide) rfl (by decide) rfl (fun v108 => ?_)
              refine gr_ck (fun _ => ?_)
              exact gr_ret _
            · refine gr_it ?_ ?_
              · refine gr_gfp 1 28 (by decide) (by decide) rfl rfl (by decide) ?_
                refine gr_gfp 28 29 (by decide) (by decide) rfl rfl (by decide) ?_
                refine gr_gf 29 (by decide) (by decide) rfl (by decide) rfl (fun v120 => ?_)
                refine gr_ck (fun _ => ?_)
                exact gr_ret _
              · refine gr_gfp 1 28 (by decide) (by decide) rfl rfl (by decide) ?_
                refine gr_gf 28 (by decide) (by decide) rfl (by decide) rfl (fun v129 => ?_)
                exact gr_ret _
      · exact r_X11_tried_30
  · exact gr_ret _
def g_X12_tried_33  : gM Int :=
  gret ((-1))
set_option maxRecDepth 20000 in
theorem r_X12_tried_33  : gr (f_X12_tried_33 ) (g_X12_tried_33 ) := by
  unfold f_X12_tried_33 g_X12_tried_33
  exact gr_ret _
def g_X12_bounded_29 (x1 : Int) (s1 : Int) : gM Int :=
  gck ((s1 = 0) ∨ (s1 = 1)) (gput (-6941) (s1) (gget (-6941) (fun v33 => gck (hf_inI v33) (glet ((if (v33 = 0) then x1 else 0)) (fun w44 => gret (w44))))))
set_option maxRecDepth 20000 in
theorem r_X12_bounded_29 (x1 : Int) (s1 : Int) : gr (f_X12_bounded_29 69 x1 69 s1) (g_X12_bounded_29 x1 s1) := by
  unfold f_X12_bounded_29 g_X12_bounded_29
  refine gr_ck (fun _ => ?_)
  refine gr_pf 69 (by decide) (by decide) rfl (by decide) (by decide) rfl rfl ?_
  refine gr_gf 69 (by decide) (by decide) rfl (by decide) rfl (fun v33 => ?_)
  refine gr_ck (fun _ => ?_)
  refine gr_let (fun w44 => ?_)
  exact gr_ret _
def g_X12_bounded (x1 : Int) : gM Int :=
  gget (-6941) (fun v2 => gcz (v2) ((¬ (v2 = 0))) (g_X12_bounded_29 x1 1) (gcl (x1) (1000000000000) ((1000000000000 < x1)) (g_X12_bounded_29 x1 1) (gcl (x1) ((-1000000000000)) (((-1000000000000) ≤ x1)) (g_X12_bounded_29 x1 0) (g_X12_bounded_29 x1 1))))
set_option maxRecDepth 20000 in
theorem r_X12_bounded (x1 : Int) : gr (f_X12_bounded 69 x1) (g_X12_bounded x1) := by
  unfold f_X12_bounded g_X12_bounded
  refine gr_gf 69 (by decide) (by decide) rfl (by decide) rfl (fun v2 => ?_)
  refine gr_cz ?_ ?_
  · exact r_X12_bounded_29 _ _
  · refine gr_cl ?_ ?_
    · exact r_X12_bounded_29 _ _
    · refine gr_cl ?_ ?_
      · exact r_X12_bounded_29 _ _
      · exact r_X12_bounded_29 _ _
def g_X12_times_69 (x1 : Int) (x3 : Int) (s1 : Int) : gM Int :=
  gck ((s1 = 0) ∨ (s1 = 1)) (gput (-6941) (s1) (gget (-6941) (fun v73 => gck (hf_inI v73) (glet ((if (v73 = 0) then (x1 * x3) else 0)) (fun w86 => gret (w86))))))
set_option maxRecDepth 20000 in
theorem r_X12_times_69 (x1 : Int) (x3 : Int) (s1 : Int) : gr (f_X12_times_69 69 x1 x3 69 s1) (g_X12_times_69 x1 x3 s1) := by
  unfold f_X12_times_69 g_X12_times_69
  refine gr_ck (fun _ => ?_)
  refine gr_pf 69 (by decide) (by decide) rfl (by decide) (by decide) rfl rfl ?_
  refine gr_gf 69 (by decide) (by decide) rfl (by decide) rfl (fun v73 => ?_)
  refine gr_ck (fun _ => ?_)
  refine gr_let (fun w86 => ?_)
  exact gr_ret _
def g_X12_times_49 (x1 : Int) (x3 : Int) (s0 : Int) : gM Int :=
  gget (-6941) (fun v53 => gcz (v53) ((¬ (v53 = 0))) (g_X12_times_69 x1 x3 1) (gcz (s0) ((s0 = 0)) (g_X12_times_69 x1 x3 0) (g_X12_times_69 x1 x3 1)))
set_option maxRecDepth 20000 in
theorem r_X12_times_49 (x1 : Int) (x3 : Int) (s0 : Int) : gr (f_X12_times_49 69 x1 x3 s0) (g_X12_times_49 x1 x3 s0) := by
  unfold f_X12_times_49 g_X12_times_49
  refine gr_gf 69 (by decide) (by decide) rfl (by decide) rfl (fun v53 => ?_)
  refine gr_cz ?_ ?_
  · exact r_X12_times_69 _ _ _
  · refine gr_cz ?_ ?_
    · exact r_X12_times_69 _ _ _
    · exact r_X12_times_69 _ _ _
def g_X12_times (x1 : Int) (x3 : Int) : gM Int :=
  gcl (x1) (0) ((x1 = 0)) (g_X12_times_49 x1 x3 0) (gcl (x3) (0) ((x3 = 0)) (g_X12_times_49 x1 x3 0) (gck ((hf_inL x3) ∧ (hf_inL 0)) (glet ((if (0 ≤ x3) then x3 else (-x3))) (fun w24 => gck ((hf_inL x1) ∧ (hf_inL 0)) (glet ((if (0 ≤ x1) then x1 else (-x1))) (fun w39 => gdvl (1000000000000) (w39) (fun v39 => gcl (w24) (v39) ((w24 ≤ v39)) (g_X12_times_49 x1 x3 0) (g_X12_times_49 x1 x3 1))))))))
set_option maxRecDepth 20000 in
theorem r_X12_times (x1 : Int) (x3 : Int) : gr (f_X12_times 69 x1 x3) (g_X12_times x1 x3) := by
  unfold f_X12_times g_X12_times
  refine gr_cl ?_ ?_
  · exact r_X12_times_49 _ _ _
  · refine gr_cl ?_ ?_
    · exact r_X12_times_49 _ _ _
    · refine gr_ck (fun _ => ?_)
      refine gr_let (fun w24 => ?_)
      refine gr_ck (fun _ => ?_)
      refine gr_let (fun w39 => ?_)
      refine gr_dvl (fun v39 => ?_)
      refine gr_cl ?_ ?_
      · exact r_X12_times_49 _ _ _
      · exact r_X12_times_49 _ _ _
def g_X12_worthOf_240 (x2 : Int) (x4 : Int) (s1 : Int) : gM Int :=
  gck ((s1 = 0) ∨ (s1 = 1)) (gput (-6941) (s1) (gget (-6941) (fun v244 => gcz (v244) ((v244 = 0)) (gdvl (x2) (x4) (fun v257 => gret (v257))) (gret (0)))))
set_option maxRecDepth 20000 in
theorem r_X12_worthOf_240 (x2 : Int) (x4 : Int) (s1 : Int) : gr (f_X12_worthOf_240 69 x2 x4 69 s1) (g_X12_worthOf_240 x2 x4 s1) := by
  unfold f_X12_worthOf_240 g_X12_worthOf_240
  refine gr_ck (fun _ => ?_)
  refine gr_pf 69 (by decide) (by decide) rfl (by decide) (by decide) rfl rfl ?_
  refine gr_gf 69 (by decide) (by decide) rfl (by decide) rfl (fun v244 => ?_)
  refine gr_cz ?_ ?_
  · refine gr_dvl (fun v257 => ?_)
    exact gr_ret _
  · exact gr_ret _
def g_X12_compares (x0 : Int) (x1 : Int) (x3 : Int) : gM Int :=
  gck (hf_inI x0) (git ((x0 = 5)) (gck ((hf_inL x1) ∧ (hf_inL x3)) (glet ((if (x3 ≤ x1) then 0 else 1)) (fun w47 => gck ((w47 = 0) ∨ (w47 = 1)) (gret (w47))))) (git ((x0 = 6)) (gck ((hf_inL x1) ∧ (hf_inL x3)) (glet ((if (x3 < x1) then 0 else 1)) (fun w59 => gck ((w59 = 0) ∨ (w59 = 1)) (gret (w59))))) (git ((x0 = 7)) (gck ((hf_inL x1) ∧ (hf_inL x3)) (glet ((if (¬ (x1 = x3)) then 0 else 1)) (fun w71 => gck ((w71 = 0) ∨ (w71 = 1)) (gret (w71))))) (git ((x0 = 8)) (gck ((hf_inL x1) ∧ (hf_inL x3)) (glet ((if (x1 = x3) then 0 else 1)) (fun w83 => gck ((w83 = 0) ∨ (w83 = 1)) (gret (w83))))) (git ((x0 = 9)) (gck ((hf_inL x1) ∧ (hf_inL x3)) (glet ((if (x1 < x3) then 0 else 1)) (fun w95 => gck ((w95 = 0) ∨ (w95 = 1)) (gret (w95))))) (gck ((hf_inL x1) ∧ (hf_inL x3)) (glet ((if (x1 ≤ x3) then 0 else 1)) (fun w107 => gck ((w107 = 0) ∨ (w107 = 1)) (gret (w107))))))))))
set_option maxRecDepth 20000 in
theorem r_X12_compares (x0 : Int) (x1 : Int) (x3 : Int) : gr (f_X12_compares x0 x1 x3) (g_X12_compares x0 x1 x3) := by
  unfold f_X12_compares g_X12_compares
  refine gr_ck (fun _ => ?_)
  refine gr_it ?_ ?_
  · refine gr_ck (fun _ => ?_)
    refine gr_let (fun w47 => ?_)
    refine gr_ck (fun _ => ?_)
    exact gr_ret _
  · refine gr_it ?_ ?_
    · refine gr_ck (fun _ => ?_)
      refine gr_let (fun w59 => ?_)
      refine gr_ck (fun _ => ?_)
      exact gr_ret _
    · refine gr_it ?_ ?_
      · refine gr_ck (fun _ => ?_)
        refine gr_let (fun w71 => ?_)
        refine gr_ck (fun _ => ?_)
        exact gr_ret _
      · refine gr_it ?_ ?_
        · refine gr_ck (fun _ => ?_)
          refine gr_let (fun w83 => ?_)
          refine gr_ck (fun _ => ?_)
          exact gr_ret _
        · refine gr_it ?_ ?_
          · refine gr_ck (fun _ => ?_)
            refine gr_let (fun w95 => ?_)
            refine gr_ck (fun _ => ?_)
            exact gr_ret _
          · refine gr_ck (fun _ => ?_)
            refine gr_let (fun w107 => ?_)
            refine gr_ck (fun _ => ?_)
            exact gr_ret _
def g_X12_worthOf (x1 : Int) : gM Int :=
  gal 76 128 (x1) (fun v5 => gcz (v5) ((¬ (v5 = 0))) (gal 76 128 (x1) (fun v22 => gcb (v22) (1) ((¬ (v22 = 1))) (gal 77 128 (x1) (fun v48 => gal 87 64 (v48) (fun v49 => gal 76 128 (x1) (fun v56 => gcb (v56) (2) ((¬ (v56 = 2))) (gal 78 128 (x1) (fun v82 => gal 87 64 (v82) (fun v83 => gal 76 128 (x1) (fun v91 => gck (hf_inI v91) (git ((v91 = 3)) (gcl (v49) (0) ((v49 = 0)) (gret (0)) (gcl (v83) (0) ((v83 = 0)) (gret (0)) (gret (1)))) (git ((v91 = 4)) (gcl (v49) (0) ((¬ (v49 = 0))) (gret (1)) (gcl (v83) (0) ((v83 = 0)) (gret (0)) (gret (1)))) (git ((v91 = 11)) (gbd (g_X12_bounded (v49 + v83)) (fun v199 => gret (v199))) (git ((v91 = 12)) (gbd (g_X12_bounded (v49 - v83)) (fun v208 => gret (v208))) (git ((v91 = 13)) (gbd (g_X12_times v49 v83) (fun v216 => gret (v216))) (git ((v91 = 14)) (gget (-6941) (fun v222 => gcz (v222) ((¬ (v222 = 0))) (g_X12_worthOf_240 v49 v83 1) (gcl (v83) (0) ((¬ (v83 = 0))) (g_X12_worthOf_240 v49 v83 0) (g_X12_worthOf_240 v49 v83 1)))) (gal 76 128 (x1) (fun v264 => gbd (g_X12_compares v264 v49 v83) (fun v268 => gck (hf_inI v268) (glet ((if (v268 = 0) then 0 else 1)) (fun w279 => gret (w279)))))))))))))))) (gck ((hf_inL v49) ∧ (hf_inL 0)) (glet ((if (¬ (v49 = 0)) then 0 else 1)) (fun w72 => gret (w72)))))))) (gal 77 128 (x1) (fun v36 => gal 86 9 (v36) (fun v37 => gret (v37)))))) (gal 77 128 (x1) (fun v14 => gck (hf_inI v14) (gret (v14)))))
set_option maxRecDepth 20000 in
theorem r_X12_worthOf (x1 : Int) : gr (f_X12_worthOf 69 x1) (g_X12_worthOf x1) := by
  unfold f_X12_worthOf g_X12_worthOf
  refine gr_gfp 69 76 (by decide) (by decide) rfl rfl (by decide) ?_
  refine gr_al 76 128 (by decide) (by decide) rfl (by decide) rfl (fun v5 => ?_)
  refine gr_cz ?_ ?_
  · refine gr_gfp 69 76 (by decide) (by decide) rfl rfl (by decide) ?_
    refine gr_al 76 128 (by decide) (by decide) rfl (by decide) rfl (fun v22 => ?_)
    refine gr_cb ?_ ?_
    · refine gr_gfp 69 87 (by decide) (by decide) rfl rfl (by decide) ?_
      refine gr_gfp 69 77 (by decide) (by decide) rfl rfl (by decide) ?_
      refine gr_al 77 128 (by decide) (by decide) rfl (by decide) rfl (fun v48 => ?_)
      refine gr_al 87 64 (by decide) (by decide) rfl (by decide) rfl (fun v49 => ?_)
      refine gr_gfp 69 76 (by decide) (by decide) rfl rfl (by decide) ?_
      refine gr_al 76 128 (by decide) (by decide) rfl (by decide) rfl (fun v56 => ?_)
      refine gr_cb ?_ ?_
      · refine gr_gfp 69 87 (by decide) (by decide) rfl rfl (by decide) ?_
        refine gr_gfp 69 78 (by decide) (by decide) rfl rfl (by decide) ?_
        refine gr_al 78 128 (by decide) (by decide) rfl (by decide) rfl (fun v82 => ?_)
        refine gr_al 87 64 (by decide) (by decide) rfl (by decide) rfl (fun v83 => ?_)
        refine gr_gfp 69 76 (by decide) (by decide) rfl rfl (by decide) ?_
        refine gr_al 76 128 (by decide) (by decide) rfl (by decide) rfl (fun v91 => ?_)
        refine gr_ck (fun _ => ?_)
        refine gr_it ?_ ?_
        · refine gr_cl ?_ ?_
          · exact gr_ret _
          · refine gr_cl ?_ ?_
            · exact gr_ret _
            · exact gr_ret _
        · refine gr_it ?_ ?_
          · refine gr_cl ?_ ?_
            · exact gr_ret _
            · refine gr_cl ?_ ?_
              · exact gr_ret _
              · exact gr_ret _
          · refine gr_it ?_ ?_
            · refine gr_bd (gr_ob 69 (by decide) (by decide) rfl (r_X12_bounded _)) (fun v199 => ?_)
              exact gr_ret _
            · refine gr_it ?_ ?_
              · refine gr_bd (gr_ob 69 (by decide) (by decide) rfl (r_X12_bounded _)) (fun v208 => ?_)
                exact gr_ret _
              · refine gr_it ?_ ?_
                · refine gr_bd (gr_ob 69 (by decide) (by decide) rfl (r_X12_times _ _)) (fun v216 => ?_)
                  exact gr_ret _
                · refine gr_it ?_ ?_
                  · refine gr_gf 69 (by decide) (by decide) rfl (by decide) rfl (fun v222 => ?_)
                    refine gr_cz ?_ ?_
                    · exact r_X12_worthOf_240 _ _ _
                    · refine gr_cl ?_ ?_
                      · exact r_X12_worthOf_240 _ _ _
                      · exact r_X12_worthOf_240 _ _ _
                  · refine gr_gfp 69 76 (by decide) (by decide) rfl rfl (by decide) ?_
                    refine gr_al 76 128 (by decide) (by decide) rfl (by decide) rfl (fun v264 => ?_)
                    refine gr_bd (r_X12_compares _ _ _) (fun v268 => ?_)
                    refine gr_ck (fun _ => ?_)
                    refine gr_let (fun w279 => ?_)
                    exact gr_ret _
      · refine gr_ck (fun _ => ?_)
        refine gr_let (fun w72 => ?_)
        exact gr_ret _
    · refine gr_gfp 69 86 (by decide) (by decide) rfl rfl (by decide) ?_
      refine gr_gfp 69 77 (by decide) (by decide) rfl rfl (by decide) ?_
      refine gr_al 77 128 (by decide) (by decide) rfl (by decide) rfl (fun v36 => ?_)
      refine gr_al 86 9 (by decide) (by decide) rfl (by decide) rfl (fun v37 => ?_)
      exact gr_ret _
  · refine gr_gfp 69 77 (by decide) (by decide) rfl rfl (by decide) ?_
    refine gr_al 77 128 (by decide) (by decide) rfl (by decide) rfl (fun v14 => ?_)
    refine gr_ck (fun _ => ?_)
    exact gr_ret _
def gB_X12_sumOf_7 (x2 : Int) (rec_7 : Int → gM Int) (x3 : Int) : gM Int :=
  gcb (x3) (x2) ((x2 ≤ x3)) (gal 87 64 ((x2 - 1)) (fun v36 => gret (v36))) (gbd (g_X12_worthOf x3) (fun v19 => gas 87 64 (x3) (v19) (glet ((x3 + 1)) (fun x3_23 => rec_7 x3_23))))
set_option maxRecDepth 20000 in
theorem rB_X12_sumOf_7 (x2 : Int) (frec_7 : Int → hf_M Int) (rec_7 : Int → gM Int) (hrec_7 : ∀ s : Int, gr (frec_7 s) (rec_7 s)) (x3 : Int) : gr (B_X12_sumOf_7 69 x2 frec_7 x3) (gB_X12_sumOf_7 x2 rec_7 x3) := by
  unfold B_X12_sumOf_7 gB_X12_sumOf_7
  refine gr_cb ?_ ?_
  · refine gr_gfp 69 87 (by decide) (by decide) rfl rfl (by decide) ?_
    refine gr_al 87 64 (by decide) (by decide) rfl (by decide) rfl (fun v36 => ?_)
    exact gr_ret _
  · refine gr_gfp 69 87 (by decide) (by decide) rfl rfl (by decide) ?_
    refine gr_bd (gr_ob 69 (by decide) (by decide) rfl (r_X12_worthOf _)) (fun v19 => ?_)
    refine gr_as 87 64 (by decide) (by decide) rfl (by decide) rfl rfl ?_
    refine gr_let (fun x3_23 => ?_)
    exact hrec_7 _
def g_X12_sumOf_7 (x2 : Int) (x3 : Int) : gM Int :=
  gfx (fun rec s => gB_X12_sumOf_7 x2 rec s) hf_N x3
set_option maxRecDepth 20000 in
theorem r_X12_sumOf_7 (x2 : Int) (x3 : Int) : gr (f_X12_sumOf_7 69 x2 x3) (g_X12_sumOf_7 x2 x3) := by
  unfold f_X12_sumOf_7 g_X12_sumOf_7
  refine gr_fx (fun frec rec hrec s => ?_) _ _
  exact rB_X12_sumOf_7 _ _ _ hrec _
def g_X12_sumOf (x1 : Int) (x2 : Int) : gM Int :=
  gput (-6941) (0) (g_X12_sumOf_7 x2 x1)
set_option maxRecDepth 20000 in
theorem r_X12_sumOf (x1 : Int) (x2 : Int) : gr (f_X12_sumOf 69 x1 x2) (g_X12_sumOf x1 x2) := by
  unfold f_X12_sumOf g_X12_sumOf
  refine gr_pf 69 (by decide) (by decide) rfl (by decide) (by decide) rfl rfl ?_
  exact r_X12_sumOf_7 _ _
def g_X12_lineNow_59 (rec_2 : Int → gM Int) (x1 : Int) : gM Int :=
  glet ((x1 + 1)) (fun x1_59 => rec_2 x1_59)
set_option maxRecDepth 20000 in
theorem r_X12_lineNow_59 (frec_2 : Int → hf_M Int) (rec_2 : Int → gM Int) (hrec_2 : ∀ s : Int, gr (frec_2 s) (rec_2 s)) (x1 : Int) : gr (f_X12_lineNow_59 frec_2 69 x1) (g_X12_lineNow_59 rec_2 x1) := by
  unfold f_X12_lineNow_59 g_X12_lineNow_59
  refine gr_let (fun x1_59 => ?_)
  exact hrec_2 _
def gB_X12_lineNow_2 (rec_2 : Int → gM Int) (x1 : Int) : gM Int :=
  gget (-6919) (fun v4 => gcb (x1) (v4) ((v4 ≤ x1)) (gret ((-1))) (gal 80 24 (x1) (fun v15 => gal 79 24 (x1) (fun v21 => gcb (v15) (v21) ((¬ (v15 = v21))) (gal 79 24 (x1) (fun v33 => gal 80 24 (x1) (fun v39 => gbd (g_X12_sumOf v33 v39) (fun v40 => gget (-6941) (fun v45 => gcz (v45) ((¬ (v45 = 0))) (g_X12_lineNow_59 rec_2 x1) (gcl (v40) (0) ((v40 = 0)) (g_X12_lineNow_59 rec_2 x1) (gret (x1)))))))) (gret (x1))))))
set_option maxRecDepth 20000 in
theorem rB_X12_lineNow_2 (frec_2 : Int → hf_M Int) (rec_2 : Int → gM Int) (hrec_2 : ∀ s : Int, gr (frec_2 s) (rec_2 s)) (x1 : Int) : gr (B_X12_lineNow_2 69 frec_2 x1) (gB_X12_lineNow_2 rec_2 x1) := by
  unfold B_X12_lineNow_2 gB_X12_lineNow_2
  refine gr_gf 69 (by decide) (by decide) rfl (by decide) rfl (fun v4 => ?_)
  refine gr_cb ?_ ?_
  · exact gr_ret _
  · refine gr_gfp 69 80 (by decide) (by decide) rfl rfl (by decide) ?_
    refine gr_al 80 24 (by decide) (by decide) rfl (by decide) rfl (fun v15 => ?_)
    refine gr_gfp 69 79 (by decide) (by decide) rfl rfl (by decide) ?_
    refine gr_al 79 24 (by decide) (by decide) rfl (by decide) rfl (fun v21 => ?_)
    refine gr_cb ?_ ?_
    · refine gr_gfp 69 79 (by decide) (by decide) rfl rfl (by decide) ?_
      refine gr_al 79 24 (by decide) (by decide) rfl (by decide) rfl (fun v33 => ?_)
      refine gr_gfp 69 80 (by decide) (by decide) rfl rfl (by decide) ?_
      refine gr_al 80 24 (by decide) (by decide) rfl (by decide) rfl (fun v39 => ?_)
      refine gr_bd (gr_ob 69 (by decide) (by decide) rfl (r_X12_sumOf _ _)) (fun v40 => ?_)
      refine gr_gf 69 (by decide) (by decide) rfl (by decide) rfl (fun v45 => ?_)
      refine gr_cz ?_ ?_
      · exact r_X12_lineNow_59 frec_2 rec_2 hrec_2 _
      · refine gr_cl ?_ ?_
        · exact r_X12_lineNow_59 frec_2 rec_2 hrec_2 _
        · exact gr_ret _
    · exact gr_ret _
def g_X12_lineNow_2 (x1 : Int) : gM Int :=
  gfx (fun rec s => gB_X12_lineNow_2 rec s) hf_N x1
set_option maxRecDepth 20000 in
theorem r_X12_lineNow_2 (x1 : Int) : gr (f_X12_lineNow_2 69 x1) (g_X12_lineNow_2 x1) := by
  unfold f_X12_lineNow_2 g_X12_lineNow_2
  refine gr_fx (fun frec rec hrec s => ?_) _ _
  exact rB_X12_lineNow_2 _ _ hrec _
def g_X12_lineNow  : gM Int :=
  g_X12_lineNow_2 0
set_option maxRecDepth 20000 in
theorem r_X12_lineNow  : gr (f_X12_lineNow 69) (g_X12_lineNow ) := by
  unfold f_X12_lineNow g_X12_lineNow
  exact r_X12_lineNow_2 _
def g_X12_breaks (x1 : Int) (x2 : Int) (x3 : Int) : gM Int :=
  gal 71 3 (x2) (fun v7 => gck (hf_inI (x1 + v7)) (gck ((hf_inL x3) ∧ (hf_inL (x1 + v7))) (glet ((if (x3 ≤ (x1 + v7)) then 0 else 1)) (fun w19 => gck ((w19 = 0) ∨ (w19 = 1)) (gret (w19))))))
set_option maxRecDepth 20000 in
theorem r_X12_breaks (x1 : Int) (x2 : Int) (x3 : Int) : gr (f_X12_breaks 69 x1 x2 x3) (g_X12_breaks x1 x2 x3) := by
  unfold f_X12_breaks g_X12_breaks
  refine gr_gfp 69 71 (by decide) (by decide) rfl rfl (by decide) ?_
  refine gr_al 71 3 (by decide) (by decide) rfl (by decide) rfl (fun v7 => ?_)
  refine gr_ck (fun _ => ?_)
  refine gr_ck (fun _ => ?_)
  refine gr_let (fun w19 => ?_)
  refine gr_ck (fun _ => ?_)
  exact gr_ret _
def g_X12_lets_200 (x3 : Int) (x4 : Int) : gM Int :=
  gget (-6943) (fun v206 => gck (hf_inI v206) (gas 86 9 (3) (v206) (gck (hf_inI x3) (gas 86 9 (4) (x3) (gck (hf_inI x4) (glet ((if (x4 = 0) then 0 else 1)) (fun w234 => gas 86 9 (5) (w234) (gret (0)))))))))
set_option maxRecDepth 20000 in
theorem r_X12_lets_200 (x3 : Int) (x4 : Int) : gr (f_X12_lets_200 69 x3 x4) (g_X12_lets_200 x3 x4) := by
  unfold f_X12_lets_200 g_X12_lets_200
  refine gr_gfp 69 86 (by decide) (by decide) rfl rfl (by decide) ?_
  refine gr_gf 69 (by decide) (by decide) rfl (by decide) rfl (fun v206 => ?_)
  refine gr_ck (fun _ => ?_)
  refine gr_as 86 9 (by decide) (by decide) rfl (by decide) rfl rfl ?_
  refine gr_gfp 69 86 (by decide) (by decide) rfl rfl (by decide) ?_
  refine gr_ck (fun _ => ?_)
  refine gr_as 86 9 (by decide) (by decide) rfl (by decide) rfl rfl ?_
  refine gr_gfp 69 86 (by decide) (by decide) rfl rfl (by decide) ?_
  refine gr_ck (fun _ => ?_)
  refine gr_let (fun w234 => ?_)
  refine gr_as 86 9 (by decide) (by decide) rfl (by decide) rfl rfl ?_
  exact gr_ret _
def g_X12_lets_199 (x3 : Int) (x4 : Int) (s1 : Int) (s2 : Int) : gM Int :=
  gas 86 9 (s1) (s2) (g_X12_lets_200 x3 x4)
set_option maxRecDepth 20000 in
theorem r_X12_lets_199 (x3 : Int) (x4 : Int) (s1 : Int) (s2 : Int) : gr (f_X12_lets_199 69 x3 x4 86 s1 s2) (g_X12_lets_199 x3 x4 s1 s2) := by
  unfold f_X12_lets_199 g_X12_lets_199
  refine gr_as 86 9 (by decide) (by decide) rfl (by decide) rfl rfl ?_
  exact r_X12_lets_200 _ _
def g_X12_lets_167 (x3 : Int) (x4 : Int) (s1 : Int) (s2 : Int) : gM Int :=
  gas 86 9 (s1) (s2) (g_X12_lets_200 x3 x4)
set_option maxRecDepth 20000 in
theorem r_X12_lets_167 (x3 : Int) (x4 : Int) (s1 : Int) (s2 : Int) : gr (f_X12_lets_167 69 x3 x4 86 s1 s2) (g_X12_lets_167 x3 x4 s1 s2) := by
  unfold f_X12_lets_167 g_X12_lets_167
  refine gr_as 86 9 (by decide) (by decide) rfl (by decide) rfl rfl ?_
  exact r_X12_lets_200 _ _
def g_X12_lets_90 (x2 : Int) (x3 : Int) (x4 : Int) (s1 : Int) (s2 : Int) (s3 : Int) : gM Int :=
  gck (hf_inI (s2 + s3)) (gput (-6945) ((s1 + (s2 + s3))) (gal 71 3 (x2) (fun v102 => gck (hf_inI (x3 - v102)) (glet ((x3 - v102)) (fun x5_105 => gcz (x4) ((x4 = 0)) (gal 86 9 (0) (fun v183 => gcl (x5_105) (v183) ((x5_105 ≤ v183)) (gal 86 9 (0) (fun v198 => g_X12_lets_199 x3 x4 0 v198)) (g_X12_lets_199 x3 x4 0 x5_105))) (gget (-6944) (fun v114 => gput (-6944) ((v114 + 1)) (gal 86 9 ((6 + x2)) (fun v131 => gas 86 9 ((6 + x2)) ((v131 - 1)) (gal 86 9 (1) (fun v149 => gcl ((x5_105 - 1)) (v149) ((v149 ≤ (x5_105 - 1))) (gal 86 9 (1) (fun v166 => g_X12_lets_167 x3 x4 1 v166)) (g_X12_lets_167 x3 x4 1 (x5_105 - 1)))))))))))))
set_option maxRecDepth 20000 in
theorem r_X12_lets_90 (x2 : Int) (x3 : Int) (x4 : Int) (s1 : Int) (s2 : Int) (s3 : Int) : gr (f_X12_lets_90 69 x2 x3 x4 69 s1 s2 s3) (g_X12_lets_90 x2 x3 x4 s1 s2 s3) := by
  unfold f_X12_lets_90 g_X12_lets_90
  refine gr_ck (fun _ => ?_)
  refine gr_pf 69 (by decide) (by decide) rfl (by decide) (by decide) rfl rfl ?_
  refine gr_gfp 69 71 (by decide) (by decide) rfl rfl (by decide) ?_
  refine gr_al 71 3 (by decide) (by decide) rfl (by decide) rfl (fun v102 => ?_)
  refine gr_ck (fun _ => ?_)
  refine gr_let (fun x5_105 => ?_)
  refine gr_cz ?_ ?_
  · refine gr_gfp 69 86 (by decide) (by decide) rfl rfl (by decide) ?_
    refine gr_gfp 69 86 (by decide) (by decide) rfl rfl (by decide) ?_
    refine gr_al 86 9 (by decide) (by decide) rfl (by decide) rfl (fun v183 => ?_)
    refine gr_cl ?_ ?_
    · refine gr_gfp 69 86 (by decide) (by decide) rfl rfl (by decide) ?_
      refine gr_al 86 9 (by decide) (by decide) rfl (by decide) rfl (fun v198 => ?_)
      exact r_X12_lets_199 _ _ _ _
    · exact r_X12_lets_199 _ _ _ _
  · refine gr_gf 69 (by decide) (by decide) rfl (by decide) rfl (fun v114 => ?_)
    refine gr_pf 69 (by decide) (by decide) rfl (by decide) (by decide) rfl rfl ?_
    refine gr_gfp 69 86 (by decide) (by decide) rfl rfl (by decide) ?_
    refine gr_al 86 9 (by decide) (by decide) rfl (by decide) rfl (fun v131 => ?_)
    refine gr_as 86 9 (by decide) (by decide) rfl (by decide) rfl rfl ?_
    refine gr_gfp 69 86 (by decide) (by decide) rfl rfl (by decide) ?_
    refine gr_gfp 69 86 (by decide) (by decide) rfl rfl (by decide) ?_
    refine gr_al 86 9 (by decide) (by decide) rfl (by decide) rfl (fun v149 => ?_)
    refine gr_cl ?_ ?_
    · refine gr_gfp 69 86 (by decide) (by decide) rfl rfl (by decide) ?_
      refine gr_al 86 9 (by decide) (by decide) rfl (by decide) rfl (fun v166 => ?_)
      exact r_X12_lets_167 _ _ _ _
    · exact r_X12_lets_167 _ _ _ _
def g_X12_lets (x1 : Int) (x2 : Int) (x3 : Int) : gM Int :=
  gck (hf_inI x3) (gbd (g_X12_breaks x1 x2 x3) (fun v5 => gget (-6943) (fun v15 => gas 88 200 (v15) (x2) (gget (-6943) (fun v25 => gas 89 200 (v25) (x3) (gget (-6943) (fun v35 => gck (hf_inI v5) (glet ((if (v5 = 0) then 0 else 1)) (fun w48 => gas 90 200 (v35) (w48) (gget (-6943) (fun v51 => gput (-6943) ((v51 + 1)) (gget (-6945) (fun v61 => gget (-6908) (fun v65 => gget (-6909) (fun v69 => gcz (v5) ((v5 = 0)) (g_X12_lets_90 x2 x3 v5 v61 (v65 + (v69 * x3)) 0) (gal 73 3 (x2) (fun v85 => g_X12_lets_90 x2 x3 v5 v61 (v65 + (v69 * x3)) v85)))))))))))))))))
set_option maxRecDepth 20000 in
theorem r_X12_lets (x1 : Int) (x2 : Int) (x3 : Int) : gr (f_X12_lets 69 x1 x2 x3) (g_X12_lets x1 x2 x3) := by
  unfold f_X12_lets g_X12_lets
  refine gr_ck (fun _ => ?_)
  refine gr_bd (gr_ob 69 (by decide) (by decide) rfl (r_X12_breaks _ _ _)) (fun v5 => ?_)
  refine gr_gfp 69 88 (by decide) (by decide) rfl rfl (by decide) ?_
  refine gr_gf 69 (by decide) (by decide) rfl (by decide) rfl (fun v15 => ?_)
  refine gr_as 88 200 (by decide) (by decide) rfl (by decide) rfl rfl ?_
  refine gr_gfp 69 89 (by decide) (by decide) rfl rfl (by decide) ?_
  refine gr_gf 69 (by decide) (by decide) rfl (by decide) rfl (fun v25 => ?_)
  refine gr_as 89 200 (by decide) (by decide) rfl (by decide) rfl rfl ?_
  refine gr_gfp 69 90 (by decide) (by decide) rfl rfl (by decide) ?_
  refine gr_gf 69 (by decide) (by decide) rfl (by decide) rfl (fun v35 => ?_)
  refine gr_ck (fun _ => ?_)
  refine gr_let (fun w48 => ?_)
  refine gr_as 90 200 (by decide) (by decide) rfl (by decide) rfl rfl ?_
  refine gr_gf 69 (by decide) (by decide) rfl (by decide) rfl (fun v51 => ?_)
  refine gr_pf 69 (by decide) (by decide) rfl (by decide) (by decide) rfl rfl ?_
  refine gr_gf 69 (by decide) (by decide) rfl (by decide) rfl (fun v61 => ?_)
  refine gr_gf 69 (by decide) (by decide) rfl (by decide) rfl (fun v65 => ?_)
  refine gr_gf 69 (by decide) (by decide) rfl (by decide) rfl (fun v69 => ?_)
  refine gr_cz ?_ ?_
  · exact r_X12_lets_90 _ _ _ _ _ _
  · refine gr_gfp 69 73 (by decide) (by decide) rfl rfl (by decide) ?_
    refine gr_al 73 3 (by decide) (by decide) rfl (by decide) rfl (fun v85 => ?_)
    exact r_X12_lets_90 _ _ _ _ _ _
def gB_X12_runs_95 (x1 : Int) (rec_95 : Unit → gM Int) : gM Int :=
  gal 86 9 (0) (fun v100 => gal 86 9 (1) (fun v106 => gcl (v100) (v106) ((v106 ≤ v100)) (gck (hf_inI x1) (gput (-6946) (x1) (gput (-6942) (0) (gret (0))))) (gal 86 9 (1) (fun v121 => gal 86 9 (0) (fun v127 => gas 86 9 (2) ((v121 - v127)) (gbd (g_X12_lineNow) (fun v131 => gcz (v131) ((0 ≤ v131)) (gal 81 24 (v131) (fun v146 => gal 82 24 (v131) (fun v152 => gbd (g_X12_sumOf v146 v152) (fun v153 => gget (-6941) (fun v158 => gcz (v158) ((v158 = 0)) (gal 83 24 (v131) (fun v170 => gcz (v170) ((0 ≤ v170)) (gcl (v153) (1) ((v153 < 1)) (gret (0)) (gget (-6903) (fun v208 => gck (hf_inI v208) (gcl (v153) (v208) ((v208 < v153)) (gret (0)) (gal 86 9 ((6 + v170)) (fun v225 => gcl (v225) (0) ((v225 = 0)) (gret (0)) (gget (-6943) (fun v232 => gcb (v232) (200) ((¬ (v232 = 200))) (gbd (g_X12_lets x1 v170 v153) (fun _ => rec_95 ())) (gret (0)))))))))) (gput (-6946) (v153) (gck (hf_inI x1) (gck ((hf_inL v153) ∧ (hf_inL x1)) (glet ((if (¬ (v153 = x1)) then 2 else 1)) (fun w196 => gput (-6942) (w196) (gret (0))))))))) (gret (0))))))) (gret (0)))))))))
set_option maxRecDepth 20000 in
theorem rB_X12_runs_95 (x1 : Int) (frec_95 : Unit → hf_M Int) (rec_95 : Unit → gM Int) (hrec_95 : ∀ s : Unit, gr (frec_95 s) (rec_95 s)) : gr (B_X12_runs_95 69 x1 frec_95) (gB_X12_runs_95 x1 rec_95) := by
  unfold B_X12_runs_95 gB_X12_runs_95
  refine gr_gfp 69 86 (by decide) (by decide) rfl rfl (by decide) ?_
  refine gr_al 86 9 (by decide) (by decide) rfl (by decide) rfl (fun v100 => ?_)
  refine gr_gfp 69 86 (by decide) (by decide) rfl rfl (by decide) ?_
  refine gr_al 86 9 (by decide) (by decide) rfl (by decide) rfl (fun v106 => ?_)
  refine gr_cl ?_ ?_
  · refine gr_ck (fun _ => ?_)
    refine gr_pf 69 (by decide) (by decide) rfl (by decide) (by decide) rfl rfl ?_
    refine gr_pf 69 (by decide) (by decide) rfl (by decide) (by decide) rfl rfl ?_
    exact gr_ret _
  · refine gr_gfp 69 86 (by decide) (by decide) rfl rfl (by decide) ?_
    refine gr_gfp 69 86 (by decide) (by decide) rfl rfl (by decide) ?_
    refine gr_al 86 9 (by decide) (by decide) rfl (by decide) rfl (fun v121 => ?_)
    refine gr_gfp 69 86 (by decide) (by decide) rfl rfl (by decide) ?_
    refine gr_al 86 9 (by decide) (by decide) rfl (by decide) rfl (fun v127 => ?_)
    refine gr_as 86 9 (by decide) (by decide) rfl (by decide) rfl rfl ?_
    refine gr_bd (gr_ob 69 (by decide) (by decide) rfl (r_X12_lineNow)) (fun v131 => ?_)
    refine gr_cz ?_ ?_
    · refine gr_gfp 69 81 (by decide) (by decide) rfl rfl (by decide) ?_
      refine gr_al 81 24 (by decide) (by decide) rfl (by decide) rfl (fun v146 => ?_)
      refine gr_gfp 69 82 (by decide) (by decide) rfl rfl (by decide) ?_
      refine gr_al 82 24 (by decide) (by decide) rfl (by decide) rfl (fun v152 => ?_)
      refine gr_bd (gr_ob 69 (by decide) (by decide) rfl (r_X12_sumOf _ _)) (fun v153 => ?_)
      refine gr_gf 69 (by decide) (by decide) rfl (by decide) rfl (fun v158 => ?_)
      refine gr_cz ?_ ?_
      · refine gr_gfp 69 83 (by decide) (by decide) rfl rfl (by decide) ?_
        refine gr_al 83 24 (by decide) (by decide) rfl (by decide) rfl (fun v170 => ?_)
        refine gr_cz ?_ ?_
        · refine gr_cl ?_ ?_
          · exact gr_ret _
          · refine gr_gf 69 (by decide) (by decide) rfl (by decide) rfl (fun v208 => ?_)
            refine gr_ck (fun _ => ?_)
            refine gr_cl ?_ ?_
            · exact gr_ret _
            · refine gr_gfp 69 86 (by decide) (by decide) rfl rfl (by decide) ?_
              refine gr_al 86 9 (by decide) (by decide) rfl (by decide) rfl (fun v225 => ?_)
              refine gr_cl ?_ ?_
              · exact gr_ret _
              · refine gr_gf 69 (by decide) (by decide) rfl (by decide) rfl (fun v232 => ?_)
                refine gr_cb ?_ ?_
                · refine gr_bd (gr_ob 69 (by decide) (by decide) rfl (r_X12_lets _ _ _)) (fun _ => ?_)
                  exact hrec_95 _
                · exact gr_ret _
        · refine gr_pf 69 (by decide) (by decide) rfl (by decide) (by decide) rfl rfl ?_
          refine gr_ck (fun _ => ?_)
          refine gr_ck (fun _ => ?_)
          refine gr_let (fun w196 => ?_)
          refine gr_pf 69 (by decide) (by decide) rfl (by decide) (by decide) rfl rfl ?_
          exact gr_ret _
      · exact gr_ret _
    · exact gr_ret _
def g_X12_runs_95 (x1 : Int) : gM Int :=
  gfx (fun rec s => gB_X12_runs_95 x1 rec) hf_N ()
set_option maxRecDepth 20000 in
theorem r_X12_runs_95 (x1 : Int) : gr (f_X12_runs_95 69 x1) (g_X12_runs_95 x1) := by
  unfold f_X12_runs_95 g_X12_runs_95
  refine gr_fx (fun frec rec hrec s => ?_) _ _
  exact rB_X12_runs_95 _ _ _ hrec
def gB_X12_runs_41 (x1 : Int) (rec_41 : Int → gM Int) (x2 : Int) : gM Int :=
  gcb (x2) (3) ((3 ≤ x2)) (gput (-6943) (0) (gput (-6944) (0) (gput (-6945) (0) (gput (-6946) ((-1)) (gput (-6942) (3) (g_X12_runs_95 x1)))))) (gal 72 3 (x2) (fun v59 => gck (hf_inI v59) (gas 86 9 ((6 + x2)) (v59) (glet ((x2 + 1)) (fun x2_62 => rec_41 x2_62)))))
set_option maxRecDepth 20000 in
theorem rB_X12_runs_41 (x1 : Int) (frec_41 : Int → hf_M Int) (rec_41 : Int → gM Int) (hrec_41 : ∀ s : Int, gr (frec_41 s) (rec_41 s)) (x2 : Int) : gr (B_X12_runs_41 69 x1 frec_41 x2) (gB_X12_runs_41 x1 rec_41 x2) := by
  unfold B_X12_runs_41 gB_X12_runs_41
  refine gr_cb ?_ ?_
  · refine gr_pf 69 (by decide) (by decide) rfl (by decide) (by decide) rfl rfl ?_
    refine gr_pf 69 (by decide) (by decide) rfl (by decide) (by decide) rfl rfl ?_
    refine gr_pf 69 (by decide) (by decide) rfl (by decide) (by decide) rfl rfl ?_
    refine gr_pf 69 (by decide) (by decide) rfl (by decide) (by decide) rfl rfl ?_
    refine gr_pf 69 (by decide) (by decide) rfl (by decide) (by decide) rfl rfl ?_
    exact r_X12_runs_95 _
  · refine gr_gfp 69 86 (by decide) (by decide) rfl rfl (by decide) ?_
    refine gr_gfp 69 72 (by decide) (by decide) rfl rfl (by decide) ?_
    refine gr_al 72 3 (by decide) (by decide) rfl (by decide) rfl (fun v59 => ?_)
    refine gr_ck (fun _ => ?_)
    refine gr_as 86 9 (by decide) (by decide) rfl (by decide) rfl rfl ?_
    refine gr_let (fun x2_62 => ?_)
    exact hrec_41 _
def g_X12_runs_41 (x1 : Int) (x2 : Int) : gM Int :=
  gfx (fun rec s => gB_X12_runs_41 x1 rec s) hf_N x2
set_option maxRecDepth 20000 in
theorem r_X12_runs_41 (x1 : Int) (x2 : Int) : gr (f_X12_runs_41 69 x1 x2) (g_X12_runs_41 x1 x2) := by
  unfold f_X12_runs_41 g_X12_runs_41
  refine gr_fx (fun frec rec hrec s => ?_) _ _
  exact rB_X12_runs_41 _ _ _ hrec _
def gB_X12_runs_20 (x1 : Int) (rec_20 : Int → gM Int) (x2 : Int) : gM Int :=
  gcb (x2) (6) ((6 ≤ x2)) (g_X12_runs_41 x1 0) (gas 86 9 (x2) (0) (glet ((x2 + 1)) (fun x2_33 => rec_20 x2_33)))
set_option maxRecDepth 20000 in
theorem rB_X12_runs_20 (x1 : Int) (frec_20 : Int → hf_M Int) (rec_20 : Int → gM Int) (hrec_20 : ∀ s : Int, gr (frec_20 s) (rec_20 s)) (x2 : Int) : gr (B_X12_runs_20 69 x1 frec_20 x2) (gB_X12_runs_20 x1 rec_20 x2) := by
  unfold B_X12_runs_20 gB_X12_runs_20
  refine gr_cb ?_ ?_
  · exact r_X12_runs_41 _ _
  · refine gr_gfp 69 86 (by decide) (by decide) rfl rfl (by decide) ?_
    refine gr_as 86 9 (by decide) (by decide) rfl (by decide) rfl rfl ?_
    refine gr_let (fun x2_33 => ?_)
    exact hrec_20 _
def g_X12_runs_20 (x1 : Int) (x2 : Int) : gM Int :=
  gfx (fun rec s => gB_X12_runs_20 x1 rec s) hf_N x2
set_option maxRecDepth 20000 in
theorem r_X12_runs_20 (x1 : Int) (x2 : Int) : gr (f_X12_runs_20 69 x1 x2) (g_X12_runs_20 x1 x2) := by
  unfold f_X12_runs_20 g_X12_runs_20
  refine gr_fx (fun frec rec hrec s => ?_) _ _
  exact rB_X12_runs_20 _ _ _ hrec _
def g_X12_runs (x1 : Int) : gM Int :=
  gas 86 9 (0) (0) (gget (-6903) (fun v13 => gck (hf_inI v13) (gas 86 9 (1) (v13) (g_X12_runs_20 x1 3))))
set_option maxRecDepth 20000 in
theorem r_X12_runs (x1 : Int) : gr (f_X12_runs 69 x1) (g_X12_runs x1) := by
  unfold f_X12_runs g_X12_runs
  refine gr_gfp 69 86 (by decide) (by decide) rfl rfl (by decide) ?_
  refine gr_as 86 9 (by decide) (by decide) rfl (by decide) rfl rfl ?_
  refine gr_gfp 69 86 (by decide) (by decide) rfl rfl (by decide) ?_
  refine gr_gf 69 (by decide) (by decide) rfl (by decide) rfl (fun v13 => ?_)
  refine gr_ck (fun _ => ?_)
  refine gr_as 86 9 (by decide) (by decide) rfl (by decide) rfl rfl ?_
  exact r_X12_runs_20 _ _
def g_X12_tried (x1 : Int) (x2 : Int) : gM Int :=
  gput (-6902) (0) (gget (-6918) (fun v6 => gcz (v6) ((¬ (v6 = 0))) (gbd (g_X12_isStrength x1) (fun v18 => gcz (v18) ((v18 = 0)) (g_X12_tried_33) (gbd (g_X12_isIn x2 0 4) (fun v27 => gcz (v27) ((¬ (v27 = 0))) (gbd (g_X12_runs x1) (fun _ => gcz (x2) ((¬ (x2 = 0))) (gcb (x2) (1) ((¬ (x2 = 1))) (gcb (x2) (2) ((¬ (x2 = 2))) (gcb (x2) (3) ((¬ (x2 = 3))) (gget (-6946) (fun v93 => gret (v93))) (gget (-6945) (fun v86 => gret (v86)))) (gget (-6944) (fun v73 => gck (hf_inI v73) (gret (v73))))) (gget (-6943) (fun v60 => gck (hf_inI v60) (gret (v60))))) (gget (-6942) (fun v47 => gck (hf_inI v47) (gret (v47)))))) (g_X12_tried_33))))) (gret ((-2)))))
set_option maxRecDepth 20000 in
theorem r_X12_tried (x1 : Int) (x2 : Int) : gr (f_X12_tried 69 x1 x2) (g_X12_tried x1 x2) := by
  unfold f_X12_tried g_X12_tried
  refine gr_pf 69 (by decide) (by decide) rfl (by decide) (by decide) rfl rfl ?_
  refine gr_gf 69 (by decide) (by decide) rfl (by decide) rfl (fun v6 => ?_)
  refine gr_cz ?_ ?_
  · refine gr_bd (gr_ob 69 (by decide) (by decide) rfl (r_X12_isStrength _)) (fun v18 => ?_)
    refine gr_cz ?_ ?_
    · exact r_X12_tried_33
    · refine gr_bd (r_X12_isIn _ _ _) (fun v27 => ?_)
      refine gr_cz ?_ ?_
      · refine gr_bd (gr_ob 69 (by decide) (by decide) rfl (r_X12_runs _)) (fun _ => ?_)
        refine gr_cz ?_ ?_
        · refine gr_cb ?_ ?_
          · refine gr_cb ?_ ?_
            · refine gr_cb ?_ ?_
              · refine gr_gf 69 (by decide) (by decide) rfl (by decide) rfl (fun v93 => ?_)
                exact gr_ret _
              · refine gr_gf 69 (by decide) (by decide) rfl (by decide) rfl (fun v86 => ?_)
                exact gr_ret _
            · refine gr_gf 69 (by decide) (by decide) rfl (by decide) rfl (fun v73 => ?_)
              refine gr_ck (fun _ => ?_)
              exact gr_ret _
          · refine gr_gf 69 (by decide) (by decide) rfl (by decide) rfl (fun v60 => ?_)
            refine gr_ck (fun _ => ?_)
            exact gr_ret _
        · refine gr_gf 69 (by decide) (by decide) rfl (by decide) rfl (fun v47 => ?_)
          refine gr_ck (fun _ => ?_)
          exact gr_ret _
      · exact r_X12_tried_33
  · exact gr_ret _
def g_X1_recall_o29 (x1 : Int) (x2 : Int) : gM Int :=
  gcz (x1) ((x1 < 0)) (gret ((-1))) (gget (-2911) (fun v6 => gcb (x1) (v6) ((x1 < v6)) (gcz (x2) ((¬ (x2 = 0))) (gcb (x2) (1) ((¬ (x2 = 1))) (gal 33 200 (x1) (fun v46 => gret (v46))) (gal 32 200 (x1) (fun v37 => gret (v37)))) (gal 31 200 (x1) (fun v23 => gret (v23)))) (gret ((-1)))))
set_option maxRecDepth 20000 in
theorem r_X1_recall_o29 (x1 : Int) (x2 : Int) : gr (f_X1_recall 29 x1 x2) (g_X1_recall_o29 x1 x2) := by
  unfold f_X1_recall g_X1_recall_o29
  refine gr_cz ?_ ?_
  · exact gr_ret _
  · refine gr_gf 29 (by decide) (by decide) rfl (by decide) rfl (fun v6 => ?_)
    refine gr_cb ?_ ?_
    · refine gr_cz ?_ ?_
      · refine gr_cb ?_ ?_
        · refine gr_gfp 29 33 (by decide) (by decide) rfl rfl (by decide) ?_
          refine gr_al 33 200 (by decide) (by decide) rfl (by decide) rfl (fun v46 => ?_)
          exact gr_ret _
        · refine gr_gfp 29 32 (by decide) (by decide) rfl rfl (by decide) ?_
          refine gr_al 32 200 (by decide) (by decide) rfl (by decide) rfl (fun v37 => ?_)
          exact gr_ret _
      · refine gr_gfp 29 31 (by decide) (by decide) rfl rfl (by decide) ?_
        refine gr_al 31 200 (by decide) (by decide) rfl (by decide) rfl (fun v23 => ?_)
        exact gr_ret _
    · exact gr_ret _
def g_X11_fall (x1 : Int) (x2 : Int) (x3 : Int) : gM Int :=
  gget (-106) (fun v1 => gcz (v1) ((¬ (v1 = 0))) (gbd (g_X8_hasStrength x1) (fun v15 => gcz (v15) ((v15 = 0)) (gret ((-1))) (gcz (x2) ((x2 < 0)) (gret ((-1))) (gbd (g_X11_isWithin x3 2) (fun v27 => gcz (v27) ((¬ (v27 = 0))) (gget (-104) (fun v44 => gbd (g_X6_run v44 x1) (fun _ => gbd (g_X1_recall_o29 x2 x3) (fun v60 => gret (v60))))) (gret ((-1)))))))) (gret ((-2))))
set_option maxRecDepth 20000 in
theorem r_X11_fall (x1 : Int) (x2 : Int) (x3 : Int) : gr (f_X11_fall 1 x1 x2 x3) (g_X11_fall x1 x2 x3) := by
  unfold f_X11_fall g_X11_fall
  refine gr_gf 1 (by decide) (by decide) rfl (by decide) rfl (fun v1 => ?_)
  refine gr_cz ?_ ?_
  · refine gr_gfp 1 2 (by decide) (by decide) rfl rfl (by decide) ?_
    refine gr_bd (gr_ob 2 (by decide) (by decide) rfl (r_X8_hasStrength _)) (fun v15 => ?_)
    refine gr_cz ?_ ?_
    · exact gr_ret _
    · refine gr_cz ?_ ?_
      · exact gr_ret _
      · refine gr_bd (r_X11_isWithin _ _) (fun v27 => ?_)
        refine gr_cz ?_ ?_
        · refine gr_gfp 1 28 (by decide) (by decide) rfl rfl (by decide) ?_
          refine gr_gfp 1 2 (by decide) (by decide) rfl rfl (by decide) ?_
          refine gr_gf 1 (by decide) (by decide) rfl (by decide) rfl (fun v44 => ?_)
          refine gr_bd (gr_ob 28 (by decide) (by decide) rfl (r_X6_run _ _)) (fun _ => ?_)
          refine gr_gfp 1 28 (by decide) (by decide) rfl rfl (by decide) ?_
          refine gr_gfp 28 29 (by decide) (by decide) rfl rfl (by decide) ?_
          refine gr_bd (gr_ob 29 (by decide) (by decide) rfl (r_X1_recall_o29 _ _)) (fun v60 => ?_)
          exact gr_ret _
        · exact gr_ret _
  · exact gr_ret _
def g_X12_fall (x1 : Int) (x2 : Int) (x3 : Int) : gM Int :=
  gput (-6902) (0) (gget (-6918) (fun v6 => gcz (v6) ((¬ (v6 = 0))) (gbd (g_X12_isStrength x1) (fun v17 => gcz (v17) ((v17 = 0)) (gret ((-1))) (gbd (g_X12_isIn x3 0 2) (fun v26 => gcz (v26) ((¬ (v26 = 0))) (gbd (g_X12_runs x1) (fun _ => gcz (x2) ((x2 < 0)) (gret ((-1))) (gget (-6943) (fun v45 => gcb (x2) (v45) ((x2 < v45)) (gcz (x3) ((¬ (x3 = 0))) (gcb (x3) (1) ((¬ (x3 = 1))) (gal 90 200 (x2) (fun v85 => gret (v85))) (gal 89 200 (x2) (fun v76 => gret (v76)))) (gal 88 200 (x2) (fun v62 => gret (v62)))) (gret ((-1))))))) (gret ((-1))))))) (gret ((-2)))))
set_option maxRecDepth 20000 in
theorem r_X12_fall (x1 : Int) (x2 : Int) (x3 : Int) : gr (f_X12_fall 69 x1 x2 x3) (g_X12_fall x1 x2 x3) := by
  unfold f_X12_fall g_X12_fall
  refine gr_pf 69 (by decide) (by decide) rfl (by decide) (by decide) rfl rfl ?_
  refine gr_gf 69 (by decide) (by decide) rfl (by decide) rfl (fun v6 => ?_)
  refine gr_cz ?_ ?_
  · refine gr_bd (gr_ob 69 (by decide) (by decide) rfl (r_X12_isStrength _)) (fun v17 => ?_)
    refine gr_cz ?_ ?_
    · exact gr_ret _
    · refine gr_bd (r_X12_isIn _ _ _) (fun v26 => ?_)
      refine gr_cz ?_ ?_
      · refine gr_bd (gr_ob 69 (by decide) (by decide) rfl (r_X12_runs _)) (fun _ => ?_)
        refine gr_cz ?_ ?_
        · exact gr_ret _
        · refine gr_gf 69 (by decide) (by decide) rfl (by decide) rfl (fun v45 => ?_)
          refine gr_cb ?_ ?_
          · refine gr_cz ?_ ?_
            · refine gr_cb ?_ ?_
              · refine gr_gfp 69 90 (by decide) (by decide) rfl rfl (by decide) ?_
                refine gr_al 90 200 (by decide) (by decide) rfl (by decide) rfl (fun v85 => ?_)
                exact gr_ret _
              · refine gr_gfp 69 89 (by decide) (by decide) rfl rfl (by decide) ?_
                refine gr_al 89 200 (by decide) (by decide) rfl (by decide) rfl (fun v76 => ?_)
                exact gr_ret _
            · refine gr_gfp 69 88 (by decide) (by decide) rfl rfl (by decide) ?_
              refine gr_al 88 200 (by decide) (by decide) rfl (by decide) rfl (fun v62 => ?_)
              exact gr_ret _
          · exact gr_ret _
      · exact gr_ret _
  · exact gr_ret _
def g_X6_shareOf (x1 : Int) (x2 : Int) : gM Int :=
  gck (hf_inI x1) (git ((x1 = 0)) (gget (-2911) (fun v40 => gck (hf_inI v40) (gret (v40)))) (git ((x1 = 1)) (gget (-2913) (fun v49 => gck (hf_inI v49) (gret (v49)))) (git ((x1 = 2)) (gck (hf_inI x2) (gget (-2911) (fun v60 => gck (hf_inI v60) (gret ((x2 * v60)))))) (git ((x1 = 3)) (gck (hf_inI x2) (gget (-2913) (fun v72 => gck (hf_inI v72) (gret ((x2 * v72)))))) (git ((x1 = 4)) (gget (-2802) (fun v79 => gcb (v79) (2) ((¬ (v79 = 2))) (gret (0)) (gck (hf_inI x2) (gret (x2))))) (gget (-2802) (fun v94 => gcb (v94) (3) ((¬ (v94 = 3))) (gret (0)) (gck (hf_inI x2) (gret (x2))))))))))
set_option maxRecDepth 20000 in
theorem r_X6_shareOf (x1 : Int) (x2 : Int) : gr (f_X6_shareOf 28 x1 x2) (g_X6_shareOf x1 x2) := by
  unfold f_X6_shareOf g_X6_shareOf
  refine gr_ck (fun _ => ?_)
  refine gr_it ?_ ?_
  · refine gr_gfp 28 29 (by decide) (by decide) rfl rfl (by decide) ?_
    refine gr_gf 29 (by decide) (by decide) rfl (by decide) rfl (fun v40 => ?_)
    refine gr_ck (fun _ => ?_)
    exact gr_ret _
  · refine gr_it ?_ ?_
    · refine gr_gfp 28 29 (by decide) (by decide) rfl rfl (by decide) ?_
      refine gr_gf 29 (by decide) (by decide) rfl (by decide) rfl (fun v49 => ?_)
      refine gr_ck (fun _ => ?_)
      exact gr_ret _
    · refine gr_it ?_ ?_
      · refine gr_ck (fun _ => ?_)
        refine gr_gfp 28 29 (by decide) (by decide) rfl rfl (by decide) ?_
        refine gr_gf 29 (by decide) (by decide) rfl (by decide) rfl (fun v60 => ?_)
        refine gr_ck (fun _ => ?_)
        exact gr_ret _
      · refine gr_it ?_ ?_
        · refine gr_ck (fun _ => ?_)
          refine gr_gfp 28 29 (by decide) (by decide) rfl rfl (by decide) ?_
          refine gr_gf 29 (by decide) (by decide) rfl (by decide) rfl (fun v72 => ?_)
          refine gr_ck (fun _ => ?_)
          exact gr_ret _
        · refine gr_it ?_ ?_
          · refine gr_gf 28 (by decide) (by decide) rfl (by decide) rfl (fun v79 => ?_)
            refine gr_cb ?_ ?_
            · exact gr_ret _
            · refine gr_ck (fun _ => ?_)
              exact gr_ret _
          · refine gr_gf 28 (by decide) (by decide) rfl (by decide) rfl (fun v94 => ?_)
            refine gr_cb ?_ ?_
            · exact gr_ret _
            · refine gr_ck (fun _ => ?_)
              exact gr_ret _
def g_X11_judge_95 (rec_28 : Int × Int → gM Int) (x1 : Int) (x4 : Int) (s0 : Int) : gM Int :=
  glet ((x4 + 1)) (fun x4_96 => rec_28 (s0, x4_96))
set_option maxRecDepth 20000 in
theorem r_X11_judge_95 (frec_28 : Int × Int → hf_M Int) (rec_28 : Int × Int → gM Int) (hrec_28 : ∀ s : Int × Int, gr (frec_28 s) (rec_28 s)) (x1 : Int) (x4 : Int) (s0 : Int) : gr (f_X11_judge_95 frec_28 1 x1 x4 s0) (g_X11_judge_95 rec_28 x1 x4 s0) := by
  unfold f_X11_judge_95 g_X11_judge_95
  refine gr_let (fun x4_96 => ?_)
  exact hrec_28 _
def gB_X11_judge_28 (x1 : Int) (rec_28 : Int × Int → gM Int) (x2 : Int) (x4 : Int) : gM Int :=
  gget (-200) (fun v34 => gcb (x4) (v34) ((v34 < x4)) (gret (x2)) (gget (-104) (fun v49 => gbd (g_X6_run v49 x4) (fun _ => gal 6 41 (x4) (fun v71 => gbd (g_X6_shareOf x1 v71) (fun v72 => gcb (x1) (2) ((2 ≤ x1)) (g_X11_judge_95 rec_28 x1 x4 (x2 + v72)) (gck ((hf_inL x2) ∧ (hf_inL v72)) (glet ((max x2 v72)) (fun v85 => g_X11_judge_95 rec_28 x1 x4 v85)))))))))
set_option maxRecDepth 20000 in
theorem rB_X11_judge_28 (x1 : Int) (frec_28 : Int × Int → hf_M Int) (rec_28 : Int × Int → gM Int) (hrec_28 : ∀ s : Int × Int, gr (frec_28 s) (rec_28 s)) (x2 : Int) (x4 : Int) : gr (B_X11_judge_28 1 x1 frec_28 x2 x4) (gB_X11_judge_28 x1 rec_28 x2 x4) := by
  unfold B_X11_judge_28 gB_X11_judge_28
  refine gr_gfp 1 2 (by decide) (by decide) rfl rfl (by decide) ?_
  refine gr_gf 2 (by decide) (by decide) rfl (by decide) rfl (fun v34 => ?_)
  refine gr_cb ?_ ?_
  · exact gr_ret _
  · refine gr_gfp 1 28 (by decide) (by decide) rfl rfl (by decide) ?_
    refine gr_gfp 1 2 (by decide) (by decide) rfl rfl (by decide) ?_
    refine gr_gf 1 (by decide) (by decide) rfl (by decide) rfl (fun v49 => ?_)
    refine gr_bd (gr_ob 28 (by decide) (by decide) rfl (r_X6_run _ _)) (fun _ => ?_)
    refine gr_gfp 1 28 (by decide) (by decide) rfl rfl (by decide) ?_
    refine gr_gfp 1 2 (by decide) (by decide) rfl rfl (by decide) ?_
    refine gr_gfp 2 6 (by decide) (by decide) rfl rfl (by decide) ?_
    refine gr_al 6 41 (by decide) (by decide) rfl (by decide) rfl (fun v71 => ?_)
    refine gr_bd (gr_ob 28 (by decide) (by decide) rfl (r_X6_shareOf _ _)) (fun v72 => ?_)
    refine gr_cb ?_ ?_
    · exact r_X11_judge_95 frec_28 rec_28 hrec_28 _ _ _
    · refine gr_ck (fun _ => ?_)
      refine gr_let (fun v85 => ?_)
      exact r_X11_judge_95 frec_28 rec_28 hrec_28 _ _ _
def g_X11_judge_28 (x1 : Int) (x2 : Int) (x4 : Int) : gM Int :=
  gfx (fun rec s => gB_X11_judge_28 x1 rec s.1 s.2) hf_N (x2, x4)
set_option maxRecDepth 20000 in
theorem r_X11_judge_28 (x1 : Int) (x2 : Int) (x4 : Int) : gr (f_X11_judge_28 1 x1 x2 x4) (g_X11_judge_28 x1 x2 x4) := by
  unfold f_X11_judge_28 g_X11_judge_28
  refine gr_fx (fun frec rec hrec s => ?_) _ _
  exact rB_X11_judge_28 _ _ _ hrec _ _
def g_X11_judge (x1 : Int) : gM Int :=
  gget (-106) (fun v1 => gcz (v1) ((¬ (v1 = 0))) (gbd (g_X11_isWithin x1 5) (fun v13 => gcz (v13) ((¬ (v13 = 0))) (g_X11_judge_28 x1 0 0) (gret ((-1))))) (gret ((-2))))
set_option maxRecDepth 20000 in
theorem r_X11_judge (x1 : Int) : gr (f_X11_judge 1 x1) (g_X11_judge x1) := by
  unfold f_X11_judge g_X11_judge
  refine gr_gf 1 (by decide) (by decide) rfl (by decide) rfl (fun v1 => ?_)
  refine gr_cz ?_ ?_
  · refine gr_bd (r_X11_isWithin _ _) (fun v13 => ?_)
    refine gr_cz ?_ ?_
    · exact r_X11_judge_28 _ _ _
    · exact gr_ret _
  · exact gr_ret _
def g_X12_judge_195 (rec_34 : Int × Int → gM Int) (x1 : Int) (x2 : Int) (x4 : Int) : gM Int :=
  glet ((x4 + 1)) (fun x4_195 => rec_34 (x2, x4_195))
set_option maxRecDepth 20000 in
theorem r_X12_judge_195 (frec_34 : Int × Int → hf_M Int) (rec_34 : Int × Int → gM Int) (hrec_34 : ∀ s : Int × Int, gr (frec_34 s) (rec_34 s)) (x1 : Int) (x2 : Int) (x4 : Int) : gr (f_X12_judge_195 frec_34 69 x1 x2 x4) (g_X12_judge_195 rec_34 x1 x2 x4) := by
  unfold f_X12_judge_195 g_X12_judge_195
  refine gr_let (fun x4_195 => ?_)
  exact hrec_34 _
def g_X12_judge_193 (rec_34 : Int × Int → gM Int) (x1 : Int) (x4 : Int) (s0 : Int) (s1 : Int) : gM Int :=
  glet ((s0 + s1)) (fun x2_194 => g_X12_judge_195 rec_34 x1 x2_194 x4)
set_option maxRecDepth 20000 in
theorem r_X12_judge_193 (frec_34 : Int × Int → hf_M Int) (rec_34 : Int × Int → gM Int) (hrec_34 : ∀ s : Int × Int, gr (frec_34 s) (rec_34 s)) (x1 : Int) (x4 : Int) (s0 : Int) (s1 : Int) : gr (f_X12_judge_193 frec_34 69 x1 x4 s0 s1) (g_X12_judge_193 rec_34 x1 x4 s0 s1) := by
  unfold f_X12_judge_193 g_X12_judge_193
  refine gr_let (fun x2_194 => ?_)
  exact r_X12_judge_195 frec_34 rec_34 hrec_34 _ _ _
def g_X12_judge_167 (rec_34 : Int × Int → gM Int) (x1 : Int) (x2 : Int) (x4 : Int) : gM Int :=
  gcb (x1) (5) ((¬ (x1 = 5))) (g_X12_judge_195 rec_34 x1 x2 x4) (gget (-6942) (fun v174 => gcb (v174) (3) ((¬ (v174 = 3))) (g_X12_judge_193 rec_34 x1 x4 x2 0) (gal 74 41 (x4) (fun v187 => gck (hf_inI v187) (g_X12_judge_193 rec_34 x1 x4 x2 v187)))))
set_option maxRecDepth 20000 in
theorem r_X12_judge_167 (frec_34 : Int × Int → hf_M Int) (rec_34 : Int × Int → gM Int) (hrec_34 : ∀ s : Int × Int, gr (frec_34 s) (rec_34 s)) (x1 : Int) (x2 : Int) (x4 : Int) : gr (f_X12_judge_167 frec_34 69 x1 x2 x4) (g_X12_judge_167 rec_34 x1 x2 x4) := by
  unfold f_X12_judge_167 g_X12_judge_167
  refine gr_cb ?_ ?_
  · exact r_X12_judge_195 frec_34 rec_34 hrec_34 _ _ _
  · refine gr_gf 69 (by decide) (by decide) rfl (by decide) rfl (fun v174 => ?_)
    refine gr_cb ?_ ?_
    · exact r_X12_judge_193 frec_34 rec_34 hrec_34 _ _ _ _
    · refine gr_gfp 69 74 (by decide) (by decide) rfl rfl (by decide) ?_
      refine gr_al 74 41 (by decide) (by decide) rfl (by decide) rfl (fun v187 => ?_)
      refine gr_ck (fun _ => ?_)
      exact r_X12_judge_193 frec_34 rec_34 hrec_34 _ _ _ _
def g_X12_judge_165 (rec_34 : Int × Int → gM Int) (x1 : Int) (x4 : Int) (s0 : Int) (s1 : Int) : gM Int :=
  glet ((s0 + s1)) (fun x2_166 => g_X12_judge_167 rec_34 x1 x2_166 x4)
set_option maxRecDepth 20000 in
theorem r_X12_judge_165 (frec_34 : Int × Int → hf_M Int) (rec_34 : Int × Int → gM Int) (hrec_34 : ∀ s : Int × Int, gr (frec_34 s) (rec_34 s)) (x1 : Int) (x4 : Int) (s0 : Int) (s1 : Int) : gr (f_X12_judge_165 frec_34 69 x1 x4 s0 s1) (g_X12_judge_165 rec_34 x1 x4 s0 s1) := by
  unfold f_X12_judge_165 g_X12_judge_165
  refine gr_let (fun x2_166 => ?_)
  exact r_X12_judge_167 frec_34 rec_34 hrec_34 _ _ _
def g_X12_judge_139 (rec_34 : Int × Int → gM Int) (x1 : Int) (x2 : Int) (x4 : Int) : gM Int :=
  gcb (x1) (4) ((¬ (x1 = 4))) (g_X12_judge_167 rec_34 x1 x2 x4) (gget (-6942) (fun v146 => gcb (v146) (2) ((¬ (v146 = 2))) (g_X12_judge_165 rec_34 x1 x4 x2 0) (gal 74 41 (x4) (fun v159 => gck (hf_inI v159) (g_X12_judge_165 rec_34 x1 x4 x2 v159)))))
set_option maxRecDepth 20000 in
theorem r_X12_judge_139 (frec_34 : Int × Int → hf_M Int) (rec_34 : Int × Int → gM Int) (hrec_34 : ∀ s : Int × Int, gr (frec_34 s) (rec_34 s)) (x1 : Int) (x2 : Int) (x4 : Int) : gr (f_X12_judge_139 frec_34 69 x1 x2 x4) (g_X12_judge_139 rec_34 x1 x2 x4) := by
  unfold f_X12_judge_139 g_X12_judge_139
  refine gr_cb ?_ ?_
  · exact r_X12_judge_167 frec_34 rec_34 hrec_34 _ _ _
  · refine gr_gf 69 (by decide) (by decide) rfl (by decide) rfl (fun v146 => ?_)
    refine gr_cb ?_ ?_
    · exact r_X12_judge_165 frec_34 rec_34 hrec_34 _ _ _ _
    · refine gr_gfp 69 74 (by decide) (by decide) rfl rfl (by decide) ?_
      refine gr_al 74 41 (by decide) (by decide) rfl (by decide) rfl (fun v159 => ?_)
      refine gr_ck (fun _ => ?_)
      exact r_X12_judge_165 frec_34 rec_34 hrec_34 _ _ _ _
def g_X12_judge_118 (rec_34 : Int × Int → gM Int) (x1 : Int) (x2 : Int) (x4 : Int) : gM Int :=
  gcb (x1) (3) ((¬ (x1 = 3))) (g_X12_judge_139 rec_34 x1 x2 x4) (gal 74 41 (x4) (fun v130 => gck (hf_inI v130) (gget (-6945) (fun v133 => glet ((x2 + (v130 * v133))) (fun x2_138 => g_X12_judge_139 rec_34 x1 x2_138 x4)))))
set_option maxRecDepth 20000 in
theorem r_X12_judge_118 (frec_34 : Int × Int → hf_M Int) (rec_34 : Int × Int → gM Int) (hrec_34 : ∀ s : Int × Int, gr (frec_34 s) (rec_34 s)) (x1 : Int) (x2 : Int) (x4 : Int) : gr (f_X12_judge_118 frec_34 69 x1 x2 x4) (g_X12_judge_118 rec_34 x1 x2 x4) := by
  unfold f_X12_judge_118 g_X12_judge_118
  refine gr_cb ?_ ?_
  · exact r_X12_judge_139 frec_34 rec_34 hrec_34 _ _ _
  · refine gr_gfp 69 74 (by decide) (by decide) rfl rfl (by decide) ?_
    refine gr_al 74 41 (by decide) (by decide) rfl (by decide) rfl (fun v130 => ?_)
    refine gr_ck (fun _ => ?_)
    refine gr_gf 69 (by decide) (by decide) rfl (by decide) rfl (fun v133 => ?_)
    refine gr_let (fun x2_138 => ?_)
    exact r_X12_judge_139 frec_34 rec_34 hrec_34 _ _ _
def g_X12_judge_96 (rec_34 : Int × Int → gM Int) (x1 : Int) (x2 : Int) (x4 : Int) : gM Int :=
  gcb (x1) (2) ((¬ (x1 = 2))) (g_X12_judge_118 rec_34 x1 x2 x4) (gal 74 41 (x4) (fun v108 => gck (hf_inI v108) (gget (-6943) (fun v111 => gck (hf_inI v111) (glet ((x2 + (v108 * v111))) (fun x2_117 => g_X12_judge_118 rec_34 x1 x2_117 x4))))))
set_option maxRecDepth 20000 in
theorem r_X12_judge_96 (frec_34 : Int × Int → hf_M Int) (rec_34 : Int × Int → gM Int) (hrec_34 : ∀ s : Int × Int, gr (frec_34 s) (rec_34 s)) (x1 : Int) (x2 : Int) (x4 : Int) : gr (f_X12_judge_96 frec_34 69 x1 x2 x4) (g_X12_judge_96 rec_34 x1 x2 x4) := by
  unfold f_X12_judge_96 g_X12_judge_96
  refine gr_cb ?_ ?_
  · exact r_X12_judge_118 frec_34 rec_34 hrec_34 _ _ _
  · refine gr_gfp 69 74 (by decide) (by decide) rfl rfl (by decide) ?_
    refine gr_al 74 41 (by decide) (by decide) rfl (by decide) rfl (fun v108 => ?_)
    refine gr_ck (fun _ => ?_)
    refine gr_gf 69 (by decide) (by decide) rfl (by decide) rfl (fun v111 => ?_)
    refine gr_ck (fun _ => ?_)
    refine gr_let (fun x2_117 => ?_)
    exact r_X12_judge_118 frec_34 rec_34 hrec_34 _ _ _
def g_X12_judge_95 (rec_34 : Int × Int → gM Int) (x1 : Int) (x4 : Int) (s0 : Int) : gM Int :=
  g_X12_judge_96 rec_34 x1 s0 x4
set_option maxRecDepth 20000 in
theorem r_X12_judge_95 (frec_34 : Int × Int → hf_M Int) (rec_34 : Int × Int → gM Int) (hrec_34 : ∀ s : Int × Int, gr (frec_34 s) (rec_34 s)) (x1 : Int) (x4 : Int) (s0 : Int) : gr (f_X12_judge_95 frec_34 69 x1 x4 s0) (g_X12_judge_95 rec_34 x1 x4 s0) := by
  unfold f_X12_judge_95 g_X12_judge_95
  exact r_X12_judge_96 frec_34 rec_34 hrec_34 _ _ _
def g_X12_judge_73 (rec_34 : Int × Int → gM Int) (x1 : Int) (x2 : Int) (x4 : Int) : gM Int :=
  gcb (x1) (1) ((¬ (x1 = 1))) (g_X12_judge_96 rec_34 x1 x2 x4) (gget (-6945) (fun v79 => gcl (v79) (x2) ((v79 ≤ x2)) (g_X12_judge_95 rec_34 x1 x4 x2) (gget (-6945) (fun v88 => g_X12_judge_95 rec_34 x1 x4 v88))))
set_option maxRecDepth 20000 in
theorem r_X12_judge_73 (frec_34 : Int × Int → hf_M Int) (rec_34 : Int × Int → gM Int) (hrec_34 : ∀ s : Int × Int, gr (frec_34 s) (rec_34 s)) (x1 : Int) (x2 : Int) (x4 : Int) : gr (f_X12_judge_73 frec_34 69 x1 x2 x4) (g_X12_judge_73 rec_34 x1 x2 x4) := by
  unfold f_X12_judge_73 g_X12_judge_73
  refine gr_cb ?_ ?_
  · exact r_X12_judge_96 frec_34 rec_34 hrec_34 _ _ _
  · refine gr_gf 69 (by decide) (by decide) rfl (by decide) rfl (fun v79 => ?_)
    refine gr_cl ?_ ?_
    · exact r_X12_judge_95 frec_34 rec_34 hrec_34 _ _ _
    · refine gr_gf 69 (by decide) (by decide) rfl (by decide) rfl (fun v88 => ?_)
      exact r_X12_judge_95 frec_34 rec_34 hrec_34 _ _ _
def g_X12_judge_72 (rec_34 : Int × Int → gM Int) (x1 : Int) (x4 : Int) (s0 : Int) : gM Int :=
  g_X12_judge_73 rec_34 x1 s0 x4
set_option maxRecDepth 20000 in
theorem r_X12_judge_72 (frec_34 : Int × Int → hf_M Int) (rec_34 : Int × Int → gM Int) (hrec_34 : ∀ s : Int × Int, gr (frec_34 s) (rec_34 s)) (x1 : Int) (x4 : Int) (s0 : Int) : gr (f_X12_judge_72 frec_34 69 x1 x4 s0) (g_X12_judge_72 rec_34 x1 x4 s0) := by
  unfold f_X12_judge_72 g_X12_judge_72
  exact r_X12_judge_73 frec_34 rec_34 hrec_34 _ _ _
def gB_X12_judge_34 (x1 : Int) (rec_34 : Int × Int → gM Int) (x2 : Int) (x4 : Int) : gM Int :=
  gget (-6903) (fun v37 => gcb (x4) (v37) ((v37 < x4)) (gret (x2)) (gbd (g_X12_runs x4) (fun _ => gcz (x1) ((¬ (x1 = 0))) (g_X12_judge_73 rec_34 x1 x2 x4) (gget (-6943) (fun v54 => gck (hf_inI v54) (gcl (v54) (x2) ((v54 ≤ x2)) (g_X12_judge_72 rec_34 x1 x4 x2) (gget (-6943) (fun v64 => gck (hf_inI v64) (g_X12_judge_72 rec_34 x1 x4 v64)))))))))
set_option maxRecDepth 20000 in
theorem rB_X12_judge_34 (x1 : Int) (frec_34 : Int × Int → hf_M Int) (rec_34 : Int × Int → gM Int) (hrec_34 : ∀ s : Int × Int, gr (frec_34 s) (rec_34 s)) (x2 : Int) (x4 : Int) : gr (B_X12_judge_34 69 x1 frec_34 x2 x4) (gB_X12_judge_34 x1 rec_34 x2 x4) := by
  unfold B_X12_judge_34 gB_X12_judge_34
  refine gr_gf 69 (by decide) (by decide) rfl (by decide) rfl (fun v37 => ?_)
  refine gr_cb ?_ ?_
  · exact gr_ret _
  · refine gr_bd (gr_ob 69 (by decide) (by decide) rfl (r_X12_runs _)) (fun _ => ?_)
    refine gr_cz ?_ ?_
    · exact r_X12_judge_73 frec_34 rec_34 hrec_34 _ _ _
    · refine gr_gf 69 (by decide) (by decide) rfl (by decide) rfl (fun v54 => ?_)
      refine gr_ck (fun _ => ?_)
      refine gr_cl ?_ ?_
      · exact r_X12_judge_72 frec_34 rec_34 hrec_34 _ _ _
      · refine gr_gf 69 (by decide) (by decide) rfl (by decide) rfl (fun v64 => ?_)
        refine gr_ck (fun _ => ?_)
        exact r_X12_judge_72 frec_34 rec_34 hrec_34 _ _ _
def g_X12_judge_34 (x1 : Int) (x2 : Int) (x4 : Int) : gM Int :=
  gfx (fun rec s => gB_X12_judge_34 x1 rec s.1 s.2) hf_N (x2, x4)
set_option maxRecDepth 20000 in
theorem r_X12_judge_34 (x1 : Int) (x2 : Int) (x4 : Int) : gr (f_X12_judge_34 69 x1 x2 x4) (g_X12_judge_34 x1 x2 x4) := by
  unfold f_X12_judge_34 g_X12_judge_34
  refine gr_fx (fun frec rec hrec s => ?_) _ _
  exact rB_X12_judge_34 _ _ _ hrec _ _
def g_X12_judge (x1 : Int) : gM Int :=
  gput (-6902) (0) (gget (-6918) (fun v6 => gcz (v6) ((¬ (v6 = 0))) (gbd (g_X12_isIn x1 0 5) (fun v19 => gcz (v19) ((¬ (v19 = 0))) (g_X12_judge_34 x1 0 0) (gret ((-1))))) (gret ((-2)))))
set_option maxRecDepth 20000 in
theorem r_X12_judge (x1 : Int) : gr (f_X12_judge 69 x1) (g_X12_judge x1) := by
  unfold f_X12_judge g_X12_judge
  refine gr_pf 69 (by decide) (by decide) rfl (by decide) (by decide) rfl rfl ?_
  refine gr_gf 69 (by decide) (by decide) rfl (by decide) rfl (fun v6 => ?_)
  refine gr_cz ?_ ?_
  · refine gr_bd (r_X12_isIn _ _ _) (fun v19 => ?_)
    refine gr_cz ?_ ?_
    · exact r_X12_judge_34 _ _ _
    · exact gr_ret _
  · exact gr_ret _
def gB_X0_prepare_167 (rec_167 : Int → gM Int) (x4 : Int) : gM Int :=
  gget (-3905) (fun v170 => gcb (x4) (v170) ((v170 < x4)) (gret (0)) (gal 44 42 (x4) (fun v190 => gal 6 41 (x4) (fun v197 => gas 44 42 ((x4 + 1)) ((v190 + v197)) (glet ((x4 + 1)) (fun x4_200 => rec_167 x4_200))))))
set_option maxRecDepth 20000 in
theorem rB_X0_prepare_167 (frec_167 : Int → hf_M Int) (rec_167 : Int → gM Int) (hrec_167 : ∀ s : Int, gr (frec_167 s) (rec_167 s)) (x4 : Int) : gr (B_X0_prepare_167 39 2 frec_167 x4) (gB_X0_prepare_167 rec_167 x4) := by
  unfold B_X0_prepare_167 gB_X0_prepare_167
  refine gr_gf 39 (by decide) (by decide) rfl (by decide) rfl (fun v170 => ?_)
  refine gr_cb ?_ ?_
  · exact gr_ret _
  · refine gr_gfp 39 44 (by decide) (by decide) rfl rfl (by decide) ?_
    refine gr_gfp 39 44 (by decide) (by decide) rfl rfl (by decide) ?_
    refine gr_al 44 42 (by decide) (by decide) rfl (by decide) rfl (fun v190 => ?_)
    refine gr_gfp 2 6 (by decide) (by decide) rfl rfl (by decide) ?_
    refine gr_al 6 41 (by decide) (by decide) rfl (by decide) rfl (fun v197 => ?_)
    refine gr_as 44 42 (by decide) (by decide) rfl (by decide) rfl rfl ?_
    refine gr_let (fun x4_200 => ?_)
    exact hrec_167 _
def g_X0_prepare_167 (x4 : Int) : gM Int :=
  gfx (fun rec s => gB_X0_prepare_167 rec s) hf_N x4
set_option maxRecDepth 20000 in
theorem r_X0_prepare_167 (x4 : Int) : gr (f_X0_prepare_167 39 2 x4) (g_X0_prepare_167 x4) := by
  unfold f_X0_prepare_167 g_X0_prepare_167
  refine gr_fx (fun frec rec hrec s => ?_) _ _
  exact rB_X0_prepare_167 _ _ hrec _
def g_X0_prepare_157 (rec_116 : Int → gM Int) (x3 : Int) (x4 : Int) (s1 : Int) (s2 : Int) : gM Int :=
  gas 43 3 (s1) (s2) (glet ((x4 + 1)) (fun x4_158 => rec_116 x4_158))
set_option maxRecDepth 20000 in
theorem r_X0_prepare_157 (frec_116 : Int → hf_M Int) (rec_116 : Int → gM Int) (hrec_116 : ∀ s : Int, gr (frec_116 s) (rec_116 s)) (x3 : Int) (x4 : Int) (s1 : Int) (s2 : Int) : gr (f_X0_prepare_157 frec_116 39 2 x3 x4 43 s1 s2) (g_X0_prepare_157 rec_116 x3 x4 s1 s2) := by
  unfold f_X0_prepare_157 g_X0_prepare_157
  refine gr_as 43 3 (by decide) (by decide) rfl (by decide) rfl rfl ?_
  refine gr_let (fun x4_158 => ?_)
  exact hrec_116 _
def gB_X0_prepare_116 (x3 : Int) (rec_116 : Int → gM Int) (x4 : Int) : gM Int :=
  gcb (x4) (3) ((3 ≤ x4)) (g_X0_prepare_167 0) (gal 3 3 (x4) (fun v134 => gas 42 3 (x4) (v134) (gcz (x3) ((x3 = 0)) (g_X0_prepare_157 rec_116 x3 x4 x4 0) (gal 5 3 (x4) (fun v152 => g_X0_prepare_157 rec_116 x3 x4 x4 v152)))))
set_option maxRecDepth 20000 in
theorem rB_X0_prepare_116 (x3 : Int) (frec_116 : Int → hf_M Int) (rec_116 : Int → gM Int) (hrec_116 : ∀ s : Int, gr (frec_116 s) (rec_116 s)) (x4 : Int) : gr (B_X0_prepare_116 39 2 x3 frec_116 x4) (gB_X0_prepare_116 x3 rec_116 x4) := by
  unfold B_X0_prepare_116 gB_X0_prepare_116
  refine gr_cb ?_ ?_
  · exact r_X0_prepare_167 _
  · refine gr_gfp 39 42 (by decide) (by decide) rfl rfl (by decide) ?_
    refine gr_gfp 2 3 (by decide) (by decide) rfl rfl (by decide) ?_
    refine gr_al 3 3 (by decide) (by decide) rfl (by decide) rfl (fun v134 => ?_)
    refine gr_as 42 3 (by decide) (by decide) rfl (by decide) rfl rfl ?_
    refine gr_gfp 39 43 (by decide) (by decide) rfl rfl (by decide) ?_
    refine gr_cz ?_ ?_
    · exact r_X0_prepare_157 frec_116 rec_116 hrec_116 _ _ _ _
    · refine gr_gfp 2 5 (by decide) (by decide) rfl rfl (by decide) ?_
      refine gr_al 5 3 (by decide) (by decide) rfl (by decide) rfl (fun v152 => ?_)
      exact r_X0_prepare_157 frec_116 rec_116 hrec_116 _ _ _ _
def g_X0_prepare_116 (x3 : Int) (x4 : Int) : gM Int :=
  gfx (fun rec s => gB_X0_prepare_116 x3 rec s) hf_N x4
set_option maxRecDepth 20000 in
theorem r_X0_prepare_116 (x3 : Int) (x4 : Int) : gr (f_X0_prepare_116 39 2 x3 x4) (g_X0_prepare_116 x3 x4) := by
  unfold f_X0_prepare_116 g_X0_prepare_116
  refine gr_fx (fun frec rec hrec s => ?_) _ _
  exact rB_X0_prepare_116 _ _ _ hrec _
def g_X0_prepare_110 (x3 : Int) (s1 : Int) : gM Int :=
  gput (-3908) (s1) (g_X0_prepare_116 x3 0)
set_option maxRecDepth 20000 in
theorem r_X0_prepare_110 (x3 : Int) (s1 : Int) : gr (f_X0_prepare_110 39 2 x3 39 s1) (g_X0_prepare_110 x3 s1) := by
  unfold f_X0_prepare_110 g_X0_prepare_110
  refine gr_pf 39 (by decide) (by decide) rfl (by decide) (by decide) rfl rfl ?_
  exact r_X0_prepare_116 _ _
def g_X0_prepare_94 (x3 : Int) (s1 : Int) : gM Int :=
  gput (-3907) (s1) (gcz (x3) ((x3 = 0)) (g_X0_prepare_110 x3 0) (gget (-205) (fun v103 => g_X0_prepare_110 x3 v103)))
set_option maxRecDepth 20000 in
theorem r_X0_prepare_94 (x3 : Int) (s1 : Int) : gr (f_X0_prepare_94 39 2 x3 39 s1) (g_X0_prepare_94 x3 s1) := by
  unfold f_X0_prepare_94 g_X0_prepare_94
  refine gr_pf 39 (by decide) (by decide) rfl (by decide) (by decide) rfl rfl ?_
  refine gr_cz ?_ ?_
  · exact r_X0_prepare_110 _ _
  · refine gr_gf 2 (by decide) (by decide) rfl (by decide) rfl (fun v103 => ?_)
    exact r_X0_prepare_110 _ _
def g_X0_prepare_67 (x2 : Int) (s1 : Int) : gM Int :=
  gck ((s1 = 0) ∨ (s1 = 1)) (gput (-3906) (s1) (gck ((hf_inI x2) ∧ (hf_inI 2)) (glet ((if (x2 < 2) then 0 else 1)) (fun w80 => gcz (w80) ((w80 = 0)) (g_X0_prepare_94 w80 1) (gget (-204) (fun v87 => g_X0_prepare_94 w80 v87))))))
set_option maxRecDepth 20000 in
theorem r_X0_prepare_67 (x2 : Int) (s1 : Int) : gr (f_X0_prepare_67 39 2 x2 39 s1) (g_X0_prepare_67 x2 s1) := by
  unfold f_X0_prepare_67 g_X0_prepare_67
  refine gr_ck (fun _ => ?_)
  refine gr_pf 39 (by decide) (by decide) rfl (by decide) (by decide) rfl rfl ?_
  refine gr_ck (fun _ => ?_)
  refine gr_let (fun w80 => ?_)
  refine gr_cz ?_ ?_
  · exact r_X0_prepare_94 _ _
  · refine gr_gf 2 (by decide) (by decide) rfl (by decide) rfl (fun v87 => ?_)
    exact r_X0_prepare_94 _ _
def g_X0_prepare_20 (x2 : Int) : gM Int :=
  gput (-3903) (x2) (gget (-207) (fun v27 => gput (-3904) (v27) (gget (-3902) (fun v35 => gput (-3902) ((v35 + 1)) (gget (-200) (fun v45 => gput (-3905) (v45) (gcb (x2) (1) ((x2 = 1)) (g_X0_prepare_67 x2 1) (gcb (x2) (3) ((¬ (x2 = 3))) (g_X0_prepare_67 x2 0) (g_X0_prepare_67 x2 1)))))))))
set_option maxRecDepth 20000 in
theorem r_X0_prepare_20 (x2 : Int) : gr (f_X0_prepare_20 39 2 x2) (g_X0_prepare_20 x2) := by
  unfold f_X0_prepare_20 g_X0_prepare_20
  refine gr_pf 39 (by decide) (by decide) rfl (by decide) (by decide) rfl rfl ?_
  refine gr_gf 2 (by decide) (by decide) rfl (by decide) rfl (fun v27 => ?_)
  refine gr_pf 39 (by decide) (by decide) rfl (by decide) (by decide) rfl rfl ?_
  refine gr_gf 39 (by decide) (by decide) rfl (by decide) rfl (fun v35 => ?_)
  refine gr_pf 39 (by decide) (by decide) rfl (by decide) (by decide) rfl rfl ?_
  refine gr_gf 2 (by decide) (by decide) rfl (by decide) rfl (fun v45 => ?_)
  refine gr_pf 39 (by decide) (by decide) rfl (by decide) (by decide) rfl rfl ?_
  refine gr_cb ?_ ?_
  · exact r_X0_prepare_67 _ _
  · refine gr_cb ?_ ?_
    · exact r_X0_prepare_67 _ _
    · exact r_X0_prepare_67 _ _
def g_X0_prepare (x2 : Int) : gM Int :=
  gget (-3903) (fun v2 => gcb (x2) (v2) ((¬ (x2 = v2))) (g_X0_prepare_20 x2) (gget (-207) (fun v9 => gget (-3904) (fun v13 => gcb (v9) (v13) ((¬ (v9 = v13))) (g_X0_prepare_20 x2) (gret (0))))))
set_option maxRecDepth 20000 in
theorem r_X0_prepare (x2 : Int) : gr (f_X0_prepare 39 2 x2) (g_X0_prepare x2) := by
  unfold f_X0_prepare g_X0_prepare
  refine gr_gf 39 (by decide) (by decide) rfl (by decide) rfl (fun v2 => ?_)
  refine gr_cb ?_ ?_
  · exact r_X0_prepare_20 _
  · refine gr_gf 2 (by decide) (by decide) rfl (by decide) rfl (fun v9 => ?_)
    refine gr_gf 39 (by decide) (by decide) rfl (by decide) rfl (fun v13 => ?_)
    refine gr_cb ?_ ?_
    · exact r_X0_prepare_20 _
    · exact gr_ret _
def g_X8_allPieces  : gM Int :=
  gal 4 3 (0) (fun v5 => gal 4 3 (1) (fun v12 => gal 4 3 (2) (fun v22 => gret (((v5 + (5 * v12)) + (25 * v22))))))
set_option maxRecDepth 20000 in
theorem r_X8_allPieces  : gr (f_X8_allPieces 2) (g_X8_allPieces ) := by
  unfold f_X8_allPieces g_X8_allPieces
  refine gr_gfp 2 4 (by decide) (by decide) rfl rfl (by decide) ?_
  refine gr_al 4 3 (by decide) (by decide) rfl (by decide) rfl (fun v5 => ?_)
  refine gr_gfp 2 4 (by decide) (by decide) rfl rfl (by decide) ?_
  refine gr_al 4 3 (by decide) (by decide) rfl (by decide) rfl (fun v12 => ?_)
  refine gr_gfp 2 4 (by decide) (by decide) rfl rfl (by decide) ?_
  refine gr_al 4 3 (by decide) (by decide) rfl (by decide) rfl (fun v22 => ?_)
  exact gr_ret _
def g_X0_fillUpTo_64 (rec_2 : Int → gM Int) (x1 : Int) (x2 : Int) : gM Int :=
  glet ((x2 + 1)) (fun x2_64 => rec_2 x2_64)
set_option maxRecDepth 20000 in
theorem r_X0_fillUpTo_64 (frec_2 : Int → hf_M Int) (rec_2 : Int → gM Int) (hrec_2 : ∀ s : Int, gr (frec_2 s) (rec_2 s)) (x1 : Int) (x2 : Int) : gr (f_X0_fillUpTo_64 frec_2 39 x1 x2) (g_X0_fillUpTo_64 rec_2 x1 x2) := by
  unfold f_X0_fillUpTo_64 g_X0_fillUpTo_64
  refine gr_let (fun x2_64 => ?_)
  exact hrec_2 _
def g_X11_unitOf (x0 : Int) : gM Int :=
  gcz (x0) ((¬ (x0 = 0))) (gcb (x0) (1) ((¬ (x0 = 1))) (gret (25)) (gret (5))) (gret (1))
set_option maxRecDepth 20000 in
theorem r_X11_unitOf (x0 : Int) : gr (f_X11_unitOf x0) (g_X11_unitOf x0) := by
  unfold f_X11_unitOf g_X11_unitOf
  refine gr_cz ?_ ?_
  · refine gr_cb ?_ ?_
    · exact gr_ret _
    · exact gr_ret _
  · exact gr_ret _
def g_X0_piecesIn (x0 : Int) (x1 : Int) : gM Int :=
  gbd (g_X11_unitOf x1) (fun v2 => gdv (x0) (v2) (fun v5 => grm (v5) (5) (fun v7 => gret (v7))))
set_option maxRecDepth 20000 in
theorem r_X0_piecesIn (x0 : Int) (x1 : Int) : gr (f_X0_piecesIn x0 x1) (g_X0_piecesIn x0 x1) := by
  unfold f_X0_piecesIn g_X0_piecesIn
  refine gr_bd (r_X11_unitOf _) (fun v2 => ?_)
  refine gr_dv (fun v5 => ?_)
  refine gr_rm (fun v7 => ?_)
  exact gr_ret _
def g_X0_isPartOf (x0 : Int) (x1 : Int) : gM Int :=
  gbd (g_X0_piecesIn x0 0) (fun v2 => gbd (g_X0_piecesIn x1 0) (fun v7 => gcb (v2) (v7) ((v7 < v2)) (gret (0)) (gbd (g_X0_piecesIn x0 1) (fun v15 => gbd (g_X0_piecesIn x1 1) (fun v20 => gcb (v15) (v20) ((v20 < v15)) (gret (0)) (gbd (g_X0_piecesIn x0 2) (fun v28 => gbd (g_X0_piecesIn x1 2) (fun v33 => gcb (v28) (v33) ((v33 < v28)) (gret (0)) (gret (1))))))))))
set_option maxRecDepth 20000 in
theorem r_X0_isPartOf (x0 : Int) (x1 : Int) : gr (f_X0_isPartOf x0 x1) (g_X0_isPartOf x0 x1) := by
  unfold f_X0_isPartOf g_X0_isPartOf
  refine gr_bd (r_X0_piecesIn _ _) (fun v2 => ?_)
  refine gr_bd (r_X0_piecesIn _ _) (fun v7 => ?_)
  refine gr_cb ?_ ?_
  · exact gr_ret _
  · refine gr_bd (r_X0_piecesIn _ _) (fun v15 => ?_)
    refine gr_bd (r_X0_piecesIn _ _) (fun v20 => ?_)
    refine gr_cb ?_ ?_
    · exact gr_ret _
    · refine gr_bd (r_X0_piecesIn _ _) (fun v28 => ?_)
      refine gr_bd (r_X0_piecesIn _ _) (fun v33 => ?_)
      refine gr_cb ?_ ?_
      · exact gr_ret _
      · exact gr_ret _
def g_X11_spanAt (x0 : Int) (x1 : Int) : gM Int :=
  gdv ((x1 * (x1 + 1))) (2) (fun v6 => gret ((v6 + x0)))
set_option maxRecDepth 20000 in
theorem r_X11_spanAt (x0 : Int) (x1 : Int) : gr (f_X11_spanAt x0 x1) (g_X11_spanAt x0 x1) := by
  unfold f_X11_spanAt g_X11_spanAt
  refine gr_dv (fun v6 => ?_)
  exact gr_ret _
def g_X0_forgetFirst  : gM Int :=
  gput (-3916) ((-1)) (gput (-3917) ((-1)) (gret (0)))
set_option maxRecDepth 20000 in
theorem r_X0_forgetFirst  : gr (f_X0_forgetFirst 39) (g_X0_forgetFirst ) := by
  unfold f_X0_forgetFirst g_X0_forgetFirst
  refine gr_pf 39 (by decide) (by decide) rfl (by decide) (by decide) rfl rfl ?_
  refine gr_pf 39 (by decide) (by decide) rfl (by decide) (by decide) rfl rfl ?_
  exact gr_ret _
def g_X0_pick_72 (rec_21 : Int → gM Int) (x1 : Int) (x2 : Int) (x3 : Int) (x4 : Int) (x5 : Int) : gM Int :=
  glet ((x5 + 1)) (fun x5_72 => rec_21 x5_72)
set_option maxRecDepth 20000 in
theorem r_X0_pick_72 (frec_21 : Int → hf_M Int) (rec_21 : Int → gM Int) (hrec_21 : ∀ s : Int, gr (frec_21 s) (rec_21 s)) (x1 : Int) (x2 : Int) (x3 : Int) (x4 : Int) (x5 : Int) : gr (f_X0_pick_72 frec_21 39 x1 x2 x3 x4 x5) (g_X0_pick_72 rec_21 x1 x2 x3 x4 x5) := by
  unfold f_X0_pick_72 g_X0_pick_72
  refine gr_let (fun x5_72 => ?_)
  exact hrec_21 _
def g_X0_pickOf_245 (rec_88 : Int × Int → gM Int) (x1 : Int) (x2 : Int) (x3 : Int) (x4 : Int) (x7 : Int) (x8 : Int) (x9 : Int) (x10 : Int) (x11 : Int) : gM Int :=
  glet ((x10 + x11)) (fun x10_250 => glet ((x11 + 1)) (fun x11_252 => rec_88 (x10_250, x11_252)))
set_option maxRecDepth 20000 in
theorem r_X0_pickOf_245 (frec_88 : Int × Int → hf_M Int) (rec_88 : Int × Int → gM Int) (hrec_88 : ∀ s : Int × Int, gr (frec_88 s) (rec_88 s)) (x1 : Int) (x2 : Int) (x3 : Int) (x4 : Int) (x7 : Int) (x8 : Int) (x9 : Int) (x10 : Int) (x11 : Int) : gr (f_X0_pickOf_245 frec_88 39 x1 x2 x3 x4 x7 x8 x9 x10 x11) (g_X0_pickOf_245 rec_88 x1 x2 x3 x4 x7 x8 x9 x10 x11) := by
  unfold f_X0_pickOf_245 g_X0_pickOf_245
  refine gr_let (fun x10_250 => ?_)
  refine gr_let (fun x11_252 => ?_)
  exact hrec_88 _
def g_X0_pickOf_209 (rec_88 : Int × Int → gM Int) (x1 : Int) (x2 : Int) (x3 : Int) (x4 : Int) (x7 : Int) (x8 : Int) (x9 : Int) (x10 : Int) (x11 : Int) (s0 : Int) (s1 : Int) : gM Int :=
  glet ((s0 + s1)) (fun x16_210 => gget (-3915) (fun v215 => gcb (x16_210) (v215) ((v215 ≤ x16_210)) (g_X0_pickOf_245 rec_88 x1 x2 x3 x4 x7 x8 x9 x10 x11) (gput (-3915) (x16_210) (gput (-3916) (x1) (gal 42 3 (x1) (fun v240 => gput (-3917) ((x11 + v240)) (g_X0_pickOf_245 rec_88 x1 x2 x3 x4 x7 x8 x9 x10 x11)))))))
set_option maxRecDepth 20000 in
theorem r_X0_pickOf_209 (frec_88 : Int × Int → hf_M Int) (rec_88 : Int × Int → gM Int) (hrec_88 : ∀ s : Int × Int, gr (frec_88 s) (rec_88 s)) (x1 : Int) (x2 : Int) (x3 : Int) (x4 : Int) (x7 : Int) (x8 : Int) (x9 : Int) (x10 : Int) (x11 : Int) (s0 : Int) (s1 : Int) : gr (f_X0_pickOf_209 frec_88 39 x1 x2 x3 x4 x7 x8 x9 x10 x11 s0 s1) (g_X0_pickOf_209 rec_88 x1 x2 x3 x4 x7 x8 x9 x10 x11 s0 s1) := by
  unfold f_X0_pickOf_209 g_X0_pickOf_209
  refine gr_let (fun x16_210 => ?_)
  refine gr_gf 39 (by decide) (by decide) rfl (by decide) rfl (fun v215 => ?_)
  refine gr_cb ?_ ?_
  · exact r_X0_pickOf_245 frec_88 rec_88 hrec_88 _ _ _ _ _ _ _ _ _
  · refine gr_pf 39 (by decide) (by decide) rfl (by decide) (by decide) rfl rfl ?_
    refine gr_pf 39 (by decide) (by decide) rfl (by decide) (by decide) rfl rfl ?_
    refine gr_gfp 39 42 (by decide) (by decide) rfl rfl (by decide) ?_
    refine gr_al 42 3 (by decide) (by decide) rfl (by decide) rfl (fun v240 => ?_)
    refine gr_pf 39 (by decide) (by decide) rfl (by decide) (by decide) rfl rfl ?_
    exact r_X0_pickOf_245 frec_88 rec_88 hrec_88 _ _ _ _ _ _ _ _ _
def g_X0_pickOf_145 (rec_88 : Int × Int → gM Int) (x1 : Int) (x2 : Int) (x3 : Int) (x4 : Int) (x7 : Int) (x8 : Int) (x9 : Int) (x10 : Int) (x11 : Int) (x12 : Int) (s0 : Int) : gM Int :=
  gal 43 3 (x1) (fun v154 => gald 20 x3 (x10) (fun v159 => glet (((s0 * v154) + v159)) (fun x14_161 => gget (-3915) (fun v169 => gcb ((x12 + x14_161)) (v169) (((x12 + x14_161) < v169)) (gald 20 x2 ((x9 + x11)) (fun v182 => gget (-3906) (fun v188 => gcz (v188) ((v188 = 0)) (gck ((hf_inI x14_161) ∧ (hf_inI v182)) (glet ((max x14_161 v182)) (fun v206 => g_X0_pickOf_209 rec_88 x1 x2 x3 x4 x7 x8 x9 x10 x11 x12 v206))) (g_X0_pickOf_209 rec_88 x1 x2 x3 x4 x7 x8 x9 x10 x11 x12 (x14_161 + v182))))) (gret (0))))))
set_option maxRecDepth 20000 in
theorem r_X0_pickOf_145 (frec_88 : Int × Int → hf_M Int) (rec_88 : Int × Int → gM Int) (hrec_88 : ∀ s : Int × Int, gr (frec_88 s) (rec_88 s)) (x1 : Int) (x2 : Int) (x3 : Int) (x4 : Int) (x7 : Int) (x8 : Int) (x9 : Int) (x10 : Int) (x11 : Int) (x12 : Int) (s0 : Int) : gr (f_X0_pickOf_145 frec_88 39 x1 x2 x3 x4 x7 x8 x9 x10 x11 x12 s0) (g_X0_pickOf_145 rec_88 x1 x2 x3 x4 x7 x8 x9 x10 x11 x12 s0) := by
  unfold f_X0_pickOf_145 g_X0_pickOf_145
  refine gr_gfp 39 43 (by decide) (by decide) rfl rfl (by decide) ?_
  refine gr_al 43 3 (by decide) (by decide) rfl (by decide) rfl (fun v154 => ?_)
  refine gr_ald (by decide) (fun v159 => ?_)
  refine gr_let (fun x14_161 => ?_)
  refine gr_gf 39 (by decide) (by decide) rfl (by decide) rfl (fun v169 => ?_)
  refine gr_cb ?_ ?_
  · refine gr_ald (by decide) (fun v182 => ?_)
    refine gr_gf 39 (by decide) (by decide) rfl (by decide) rfl (fun v188 => ?_)
    refine gr_cz ?_ ?_
    · refine gr_ck (fun _ => ?_)
      refine gr_let (fun v206 => ?_)
      exact r_X0_pickOf_209 frec_88 rec_88 hrec_88 _ _ _ _ _ _ _ _ _ _ _
    · exact r_X0_pickOf_209 frec_88 rec_88 hrec_88 _ _ _ _ _ _ _ _ _ _ _
  · exact gr_ret _
def gB_X0_pickOf_88 (x1 : Int) (x2 : Int) (x3 : Int) (x4 : Int) (x7 : Int) (x8 : Int) (x9 : Int) (rec_88 : Int × Int → gM Int) (x10 : Int) (x11 : Int) : gM Int :=
  gcb (x11) (x7) ((x7 < x11)) (gret (0)) (gget (-3907) (fun v98 => gget (-3908) (fun v102 => gal 42 3 (x1) (fun v112 => glet ((x8 * (v98 + (v102 * (x11 + v112))))) (fun x12_117 => gget (-3906) (fun v120 => gcz (v120) ((v120 = 0)) (g_X0_pickOf_145 rec_88 x1 x2 x3 x4 x7 x8 x9 x10 x11 x12_117 1) (gal 44 42 (x11) (fun v132 => gal 44 42 (x4) (fun v139 => g_X0_pickOf_145 rec_88 x1 x2 x3 x4 x7 x8 x9 x10 x11 x12_117 (v132 - v139))))))))))
set_option maxRecDepth 20000 in
theorem rB_X0_pickOf_88 (x1 : Int) (x2 : Int) (x3 : Int) (x4 : Int) (x7 : Int) (x8 : Int) (x9 : Int) (frec_88 : Int × Int → hf_M Int) (rec_88 : Int × Int → gM Int) (hrec_88 : ∀ s : Int × Int, gr (frec_88 s) (rec_88 s)) (x10 : Int) (x11 : Int) : gr (B_X0_pickOf_88 39 x1 x2 x3 x4 x7 x8 x9 frec_88 x10 x11) (gB_X0_pickOf_88 x1 x2 x3 x4 x7 x8 x9 rec_88 x10 x11) := by
  unfold B_X0_pickOf_88 gB_X0_pickOf_88
  refine gr_cb ?_ ?_
  · exact gr_ret _
  · refine gr_gf 39 (by decide) (by decide) rfl (by decide) rfl (fun v98 => ?_)
    refine gr_gf 39 (by decide) (by decide) rfl (by decide) rfl (fun v102 => ?_)
    refine gr_gfp 39 42 (by decide) (by decide) rfl rfl (by decide) ?_
    refine gr_al 42 3 (by decide) (by decide) rfl (by decide) rfl (fun v112 => ?_)
    refine gr_let (fun x12_117 => ?_)
    refine gr_gf 39 (by decide) (by decide) rfl (by decide) rfl (fun v120 => ?_)
    refine gr_cz ?_ ?_
    · exact r_X0_pickOf_145 frec_88 rec_88 hrec_88 _ _ _ _ _ _ _ _ _ _ _
    · refine gr_gfp 39 44 (by decide) (by decide) rfl rfl (by decide) ?_
      refine gr_al 44 42 (by decide) (by decide) rfl (by decide) rfl (fun v132 => ?_)
      refine gr_gfp 39 44 (by decide) (by decide) rfl rfl (by decide) ?_
      refine gr_al 44 42 (by decide) (by decide) rfl (by decide) rfl (fun v139 => ?_)
      exact r_X0_pickOf_145 frec_88 rec_88 hrec_88 _ _ _ _ _ _ _ _ _ _ _
def g_X0_pickOf_88 (x1 : Int) (x2 : Int) (x3 : Int) (x4 : Int) (x7 : Int) (x8 : Int) (x9 : Int) (x10 : Int) (x11 : Int) : gM Int :=
  gfx (fun rec s => gB_X0_pickOf_88 x1 x2 x3 x4 x7 x8 x9 rec s.1 s.2) hf_N (x10, x11)
set_option maxRecDepth 20000 in
theorem r_X0_pickOf_88 (x1 : Int) (x2 : Int) (x3 : Int) (x4 : Int) (x7 : Int) (x8 : Int) (x9 : Int) (x10 : Int) (x11 : Int) : gr (f_X0_pickOf_88 39 x1 x2 x3 x4 x7 x8 x9 x10 x11) (g_X0_pickOf_88 x1 x2 x3 x4 x7 x8 x9 x10 x11) := by
  unfold f_X0_pickOf_88 g_X0_pickOf_88
  refine gr_fx (fun frec rec hrec s => ?_) _ _
  exact rB_X0_pickOf_88 _ _ _ _ _ _ _ _ _ hrec _ _
def g_X0_pickOf_63 (x1 : Int) (x2 : Int) (x3 : Int) (x4 : Int) (x5 : Int) (x6 : Int) (x7 : Int) (s0 : Int) : gM Int :=
  gbd (g_X11_spanAt 0 x5) (fun v68 => gbd (g_X11_spanAt x4 (x6 - 1)) (fun v79 => g_X0_pickOf_88 x1 x2 x3 x4 x7 s0 v68 v79 x6))
set_option maxRecDepth 20000 in
theorem r_X0_pickOf_63 (x1 : Int) (x2 : Int) (x3 : Int) (x4 : Int) (x5 : Int) (x6 : Int) (x7 : Int) (s0 : Int) : gr (f_X0_pickOf_63 39 x1 x2 x3 x4 x5 x6 x7 s0) (g_X0_pickOf_63 x1 x2 x3 x4 x5 x6 x7 s0) := by
  unfold f_X0_pickOf_63 g_X0_pickOf_63
  refine gr_bd (r_X11_spanAt _ _) (fun v68 => ?_)
  refine gr_bd (r_X11_spanAt _ _) (fun v79 => ?_)
  exact r_X0_pickOf_88 _ _ _ _ _ _ _ _ _
def g_X0_pickOf (x1 : Int) (x2 : Int) (x3 : Int) (x4 : Int) (x5 : Int) : gM Int :=
  gal 42 3 (x1) (fun v10 => gck ((hf_inI (x4 + 1)) ∧ (hf_inI (1 - v10))) (glet ((max (x4 + 1) (1 - v10))) (fun v12 => gget (-3905) (fun v20 => gal 42 3 (x1) (fun v28 => gck ((hf_inI x5) ∧ (hf_inI (v20 - v28))) (glet ((min x5 (v20 - v28))) (fun v30 => gget (-3906) (fun v36 => gcz (v36) ((v36 = 0)) (g_X0_pickOf_63 x1 x2 x3 x4 x5 v12 v30 1) (gal 44 42 ((x5 + 1)) (fun v50 => gal 44 42 (x4) (fun v57 => g_X0_pickOf_63 x1 x2 x3 x4 x5 v12 v30 (v50 - v57))))))))))))
set_option maxRecDepth 20000 in
theorem r_X0_pickOf (x1 : Int) (x2 : Int) (x3 : Int) (x4 : Int) (x5 : Int) : gr (f_X0_pickOf 39 x1 x2 x3 x4 x5) (g_X0_pickOf x1 x2 x3 x4 x5) := by
  unfold f_X0_pickOf g_X0_pickOf
  refine gr_gfp 39 42 (by decide) (by decide) rfl rfl (by decide) ?_
  refine gr_al 42 3 (by decide) (by decide) rfl (by decide) rfl (fun v10 => ?_)
  refine gr_ck (fun _ => ?_)
  refine gr_let (fun v12 => ?_)
  refine gr_gf 39 (by decide) (by decide) rfl (by decide) rfl (fun v20 => ?_)
  refine gr_gfp 39 42 (by decide) (by decide) rfl rfl (by decide) ?_
  refine gr_al 42 3 (by decide) (by decide) rfl (by decide) rfl (fun v28 => ?_)
  refine gr_ck (fun _ => ?_)
  refine gr_let (fun v30 => ?_)
  refine gr_gf 39 (by decide) (by decide) rfl (by decide) rfl (fun v36 => ?_)
  refine gr_cz ?_ ?_
  · exact r_X0_pickOf_63 _ _ _ _ _ _ _ _
  · refine gr_gfp 39 44 (by decide) (by decide) rfl rfl (by decide) ?_
    refine gr_al 44 42 (by decide) (by decide) rfl (by decide) rfl (fun v50 => ?_)
    refine gr_gfp 39 44 (by decide) (by decide) rfl rfl (by decide) ?_
    refine gr_al 44 42 (by decide) (by decide) rfl (by decide) rfl (fun v57 => ?_)
    exact r_X0_pickOf_63 _ _ _ _ _ _ _ _
def gB_X0_pick_21 (x1 : Int) (x2 : Int) (x3 : Int) (x4 : Int) (rec_21 : Int → gM Int) (x5 : Int) : gM Int :=
  gcb (x5) (3) ((3 ≤ x5)) (gget (-3915) (fun v79 => gret (v79))) (gbd (g_X0_piecesIn x1 x5) (fun v30 => gcz (v30) ((v30 ≤ 0)) (g_X0_pick_72 rec_21 x1 x2 x3 x4 x5) (gbd (g_X11_unitOf x5) (fun v43 => gal 40 125 ((x1 - v43)) (fun v47 => git ((x4 = 0)) (g_X0_pick_72 rec_21 x1 x2 x3 x4 x5) (git ((v47 = 0)) (g_X0_pick_72 rec_21 x1 x2 x3 x4 x5) (gbd (g_X0_pickOf x5 x4 v47 x2 x3) (fun _ => g_X0_pick_72 rec_21 x1 x2 x3 x4 x5))))))))
set_option maxRecDepth 20000 in
theorem rB_X0_pick_21 (x1 : Int) (x2 : Int) (x3 : Int) (x4 : Int) (frec_21 : Int → hf_M Int) (rec_21 : Int → gM Int) (hrec_21 : ∀ s : Int, gr (frec_21 s) (rec_21 s)) (x5 : Int) : gr (B_X0_pick_21 39 x1 x2 x3 x4 frec_21 x5) (gB_X0_pick_21 x1 x2 x3 x4 rec_21 x5) := by
  unfold B_X0_pick_21 gB_X0_pick_21
  refine gr_cb ?_ ?_
  · refine gr_gf 39 (by decide) (by decide) rfl (by decide) rfl (fun v79 => ?_)
    exact gr_ret _
  · refine gr_bd (r_X0_piecesIn _ _) (fun v30 => ?_)
    refine gr_cz ?_ ?_
    · exact r_X0_pick_72 frec_21 rec_21 hrec_21 _ _ _ _ _
    · refine gr_gfp 39 40 (by decide) (by decide) rfl rfl (by decide) ?_
      refine gr_bd (r_X11_unitOf _) (fun v43 => ?_)
      refine gr_al 40 125 (by decide) (by decide) rfl (by decide) rfl (fun v47 => ?_)
      refine gr_it ?_ ?_
      · exact r_X0_pick_72 frec_21 rec_21 hrec_21 _ _ _ _ _
      · refine gr_it ?_ ?_
        · exact r_X0_pick_72 frec_21 rec_21 hrec_21 _ _ _ _ _
        · refine gr_bd (gr_ob 39 (by decide) (by decide) rfl (r_X0_pickOf _ _ _ _ _)) (fun _ => ?_)
          exact r_X0_pick_72 frec_21 rec_21 hrec_21 _ _ _ _ _
def g_X0_pick_21 (x1 : Int) (x2 : Int) (x3 : Int) (x4 : Int) (x5 : Int) : gM Int :=
  gfx (fun rec s => gB_X0_pick_21 x1 x2 x3 x4 rec s) hf_N x5
set_option maxRecDepth 20000 in
theorem r_X0_pick_21 (x1 : Int) (x2 : Int) (x3 : Int) (x4 : Int) (x5 : Int) : gr (f_X0_pick_21 39 x1 x2 x3 x4 x5) (g_X0_pick_21 x1 x2 x3 x4 x5) := by
  unfold f_X0_pick_21 g_X0_pick_21
  refine gr_fx (fun frec rec hrec s => ?_) _ _
  exact rB_X0_pick_21 _ _ _ _ _ _ hrec _
def g_X0_pick (x1 : Int) (x2 : Int) (x3 : Int) : gM Int :=
  gput (-3915) (1000000000) (gbd (g_X0_forgetFirst) (fun _ => gal 40 125 (x1) (fun v15 => g_X0_pick_21 x1 x2 x3 v15 0)))
set_option maxRecDepth 20000 in
theorem r_X0_pick (x1 : Int) (x2 : Int) (x3 : Int) : gr (f_X0_pick 39 x1 x2 x3) (g_X0_pick x1 x2 x3) := by
  unfold f_X0_pick g_X0_pick
  refine gr_pf 39 (by decide) (by decide) rfl (by decide) (by decide) rfl rfl ?_
  refine gr_bd (gr_ob 39 (by decide) (by decide) rfl (r_X0_forgetFirst)) (fun _ => ?_)
  refine gr_gfp 39 40 (by decide) (by decide) rfl rfl (by decide) ?_
  refine gr_al 40 125 (by decide) (by decide) rfl (by decide) rfl (fun v15 => ?_)
  exact r_X0_pick_21 _ _ _ _ _
def gB_X0_fillRow_40 (rec_15 : Int → gM Int) (x1 : Int) (x3 : Int) (x4 : Int) (rec_40 : Int → gM Int) (x5 : Int) : gM Int :=
  gcz (x5) ((x5 < 0)) (glet ((x4 + 1)) (fun x4_69 => rec_15 x4_69)) (gbd (g_X11_spanAt x5 x4) (fun v50 => gbd (g_X0_pick x1 x5 x4) (fun v59 => gasd 20 x3 (v50) (v59) (glet ((x5 + (-1))) (fun x5_63 => rec_40 x5_63)))))
set_option maxRecDepth 20000 in
theorem rB_X0_fillRow_40 (frec_15 : Int → hf_M Int) (rec_15 : Int → gM Int) (hrec_15 : ∀ s : Int, gr (frec_15 s) (rec_15 s)) (x1 : Int) (x3 : Int) (x4 : Int) (frec_40 : Int → hf_M Int) (rec_40 : Int → gM Int) (hrec_40 : ∀ s : Int, gr (frec_40 s) (rec_40 s)) (x5 : Int) : gr (B_X0_fillRow_40 frec_15 39 x1 x3 x4 frec_40 x5) (gB_X0_fillRow_40 rec_15 x1 x3 x4 rec_40 x5) := by
  unfold B_X0_fillRow_40 gB_X0_fillRow_40
  refine gr_cz ?_ ?_
  · refine gr_let (fun x4_69 => ?_)
    exact hrec_15 _
  · refine gr_bd (r_X11_spanAt _ _) (fun v50 => ?_)
    refine gr_bd (gr_ob 39 (by decide) (by decide) rfl (r_X0_pick _ _ _)) (fun v59 => ?_)
    refine gr_asd (by decide) ?_
    refine gr_let (fun x5_63 => ?_)
    exact hrec_40 _
def g_X0_fillRow_40 (rec_15 : Int → gM Int) (x1 : Int) (x3 : Int) (x4 : Int) (x5 : Int) : gM Int :=
  gfx (fun rec s => gB_X0_fillRow_40 rec_15 x1 x3 x4 rec s) hf_N x5
set_option maxRecDepth 20000 in
theorem r_X0_fillRow_40 (frec_15 : Int → hf_M Int) (rec_15 : Int → gM Int) (hrec_15 : ∀ s : Int, gr (frec_15 s) (rec_15 s)) (x1 : Int) (x3 : Int) (x4 : Int) (x5 : Int) : gr (f_X0_fillRow_40 frec_15 39 x1 x3 x4 x5) (g_X0_fillRow_40 rec_15 x1 x3 x4 x5) := by
  unfold f_X0_fillRow_40 g_X0_fillRow_40
  refine gr_fx (fun frec rec hrec s => ?_) _ _
  exact rB_X0_fillRow_40 _ _ hrec_15 _ _ _ _ _ hrec _
def gB_X0_fillRow_15 (x1 : Int) (x3 : Int) (rec_15 : Int → gM Int) (x4 : Int) : gM Int :=
  gget (-3905) (fun v18 => gcb (x4) (v18) ((v18 < x4)) (gret (0)) (gbd (g_X11_spanAt x4 x4) (fun v29 => gasd 20 x3 (v29) (0) (glet ((x4 - 1)) (fun x5_38 => g_X0_fillRow_40 rec_15 x1 x3 x4 x5_38)))))
set_option maxRecDepth 20000 in
theorem rB_X0_fillRow_15 (x1 : Int) (x3 : Int) (frec_15 : Int → hf_M Int) (rec_15 : Int → gM Int) (hrec_15 : ∀ s : Int, gr (frec_15 s) (rec_15 s)) (x4 : Int) : gr (B_X0_fillRow_15 39 x1 x3 frec_15 x4) (gB_X0_fillRow_15 x1 x3 rec_15 x4) := by
  unfold B_X0_fillRow_15 gB_X0_fillRow_15
  refine gr_gf 39 (by decide) (by decide) rfl (by decide) rfl (fun v18 => ?_)
  refine gr_cb ?_ ?_
  · exact gr_ret _
  · refine gr_bd (r_X11_spanAt _ _) (fun v29 => ?_)
    refine gr_asd (by decide) ?_
    refine gr_let (fun x5_38 => ?_)
    exact r_X0_fillRow_40 frec_15 rec_15 hrec_15 _ _ _ _
def g_X0_fillRow_15 (x1 : Int) (x3 : Int) (x4 : Int) : gM Int :=
  gfx (fun rec s => gB_X0_fillRow_15 x1 x3 rec s) hf_N x4
set_option maxRecDepth 20000 in
theorem r_X0_fillRow_15 (x1 : Int) (x3 : Int) (x4 : Int) : gr (f_X0_fillRow_15 39 x1 x3 x4) (g_X0_fillRow_15 x1 x3 x4) := by
  unfold f_X0_fillRow_15 g_X0_fillRow_15
  refine gr_fx (fun frec rec hrec s => ?_) _ _
  exact rB_X0_fillRow_15 _ _ _ _ hrec _
def g_X0_fillRow (x1 : Int) (x2 : Int) : gM Int :=
  gal 40 125 (x1) (fun v5 => git ((¬ (v5 = 0))) (g_X0_fillRow_15 x1 v5 x2) (gret (0)))
set_option maxRecDepth 20000 in
theorem r_X0_fillRow (x1 : Int) (x2 : Int) : gr (f_X0_fillRow 39 x1 x2) (g_X0_fillRow x1 x2) := by
  unfold f_X0_fillRow g_X0_fillRow
  refine gr_gfp 39 40 (by decide) (by decide) rfl rfl (by decide) ?_
  refine gr_al 40 125 (by decide) (by decide) rfl (by decide) rfl (fun v5 => ?_)
  refine gr_it ?_ ?_
  · exact r_X0_fillRow_15 _ _ _
  · exact gr_ret _
def g_X0_fillUpTo_48 (rec_2 : Int → gM Int) (x1 : Int) (x2 : Int) : gM Int :=
  gbd (g_X0_fillRow x2 0) (fun _ => gget (-3902) (fun v60 => gas 41 125 (x2) (v60) (g_X0_fillUpTo_64 rec_2 x1 x2)))
set_option maxRecDepth 20000 in
theorem r_X0_fillUpTo_48 (frec_2 : Int → hf_M Int) (rec_2 : Int → gM Int) (hrec_2 : ∀ s : Int, gr (frec_2 s) (rec_2 s)) (x1 : Int) (x2 : Int) : gr (f_X0_fillUpTo_48 frec_2 39 x1 x2) (g_X0_fillUpTo_48 rec_2 x1 x2) := by
  unfold f_X0_fillUpTo_48 g_X0_fillUpTo_48
  refine gr_bd (gr_ob 39 (by decide) (by decide) rfl (r_X0_fillRow _ _)) (fun _ => ?_)
  refine gr_gfp 39 41 (by decide) (by decide) rfl rfl (by decide) ?_
  refine gr_gf 39 (by decide) (by decide) rfl (by decide) rfl (fun v60 => ?_)
  refine gr_as 41 125 (by decide) (by decide) rfl (by decide) rfl rfl ?_
  exact r_X0_fillUpTo_64 frec_2 rec_2 hrec_2 _ _
def gB_X0_fillUpTo_2 (x1 : Int) (rec_2 : Int → gM Int) (x2 : Int) : gM Int :=
  gcb (x2) (x1) ((x1 < x2)) (gret (0)) (gal 41 125 (x2) (fun v12 => gget (-3902) (fun v14 => gcb (v12) (v14) ((v12 = v14)) (g_X0_fillUpTo_64 rec_2 x1 x2) (gbd (g_X0_isPartOf x2 x1) (fun v22 => gcz (v22) ((v22 = 0)) (g_X0_fillUpTo_64 rec_2 x1 x2) (gal 40 125 (x2) (fun v33 => git ((¬ (v33 = 0))) (g_X0_fillUpTo_48 rec_2 x1 x2) (gna 20 (861) (fun v45 => gob 20 v45 (gas 40 125 (x2) (v45) (g_X0_fillUpTo_48 rec_2 x1 x2)))))))))))
set_option maxRecDepth 20000 in
theorem rB_X0_fillUpTo_2 (x1 : Int) (frec_2 : Int → hf_M Int) (rec_2 : Int → gM Int) (hrec_2 : ∀ s : Int, gr (frec_2 s) (rec_2 s)) (x2 : Int) : gr (B_X0_fillUpTo_2 39 x1 frec_2 x2) (gB_X0_fillUpTo_2 x1 rec_2 x2) := by
  unfold B_X0_fillUpTo_2 gB_X0_fillUpTo_2
  refine gr_cb ?_ ?_
  · exact gr_ret _
  · refine gr_gfp 39 41 (by decide) (by decide) rfl rfl (by decide) ?_
    refine gr_al 41 125 (by decide) (by decide) rfl (by decide) rfl (fun v12 => ?_)
    refine gr_gf 39 (by decide) (by decide) rfl (by decide) rfl (fun v14 => ?_)
    refine gr_cb ?_ ?_
    · exact r_X0_fillUpTo_64 frec_2 rec_2 hrec_2 _ _
    · refine gr_bd (r_X0_isPartOf _ _) (fun v22 => ?_)
      refine gr_cz ?_ ?_
      · exact r_X0_fillUpTo_64 frec_2 rec_2 hrec_2 _ _
      · refine gr_gfp 39 40 (by decide) (by decide) rfl rfl (by decide) ?_
        refine gr_al 40 125 (by decide) (by decide) rfl (by decide) rfl (fun v33 => ?_)
        refine gr_it ?_ ?_
        · exact r_X0_fillUpTo_48 frec_2 rec_2 hrec_2 _ _
        · refine gr_gfp 39 40 (by decide) (by decide) rfl rfl (by decide) ?_
          refine gr_na (by decide) (fun v45 => ?_)
          refine gr_obd ?_
          refine gr_as 40 125 (by decide) (by decide) rfl (by decide) rfl rfl ?_
          exact r_X0_fillUpTo_48 frec_2 rec_2 hrec_2 _ _
def g_X0_fillUpTo_2 (x1 : Int) (x2 : Int) : gM Int :=
  gfx (fun rec s => gB_X0_fillUpTo_2 x1 rec s) hf_N x2
set_option maxRecDepth 20000 in
theorem r_X0_fillUpTo_2 (x1 : Int) (x2 : Int) : gr (f_X0_fillUpTo_2 39 x1 x2) (g_X0_fillUpTo_2 x1 x2) := by
  unfold f_X0_fillUpTo_2 g_X0_fillUpTo_2
  refine gr_fx (fun frec rec hrec s => ?_) _ _
  exact rB_X0_fillUpTo_2 _ _ _ hrec _
def g_X0_fillUpTo (x1 : Int) : gM Int :=
  g_X0_fillUpTo_2 x1 0
set_option maxRecDepth 20000 in
theorem r_X0_fillUpTo (x1 : Int) : gr (f_X0_fillUpTo 39 x1) (g_X0_fillUpTo x1) := by
  unfold f_X0_fillUpTo g_X0_fillUpTo
  exact r_X0_fillUpTo_2 _ _
def g_X0_valueOf (x1 : Int) (x2 : Int) (x3 : Int) : gM Int :=
  gcb (x1) (x2) ((x1 < x2)) (gbd (g_X0_fillUpTo x3) (fun _ => gbd (g_X0_pick x3 x1 x2) (fun v20 => gcb (v20) (1000000000) ((v20 < 1000000000)) (gck (hf_inI v20) (gret (v20))) (gret ((-2)))))) (gbd (g_X0_forgetFirst) (fun _ => gret (0)))
set_option maxRecDepth 20000 in
theorem r_X0_valueOf (x1 : Int) (x2 : Int) (x3 : Int) : gr (f_X0_valueOf 39 x1 x2 x3) (g_X0_valueOf x1 x2 x3) := by
  unfold f_X0_valueOf g_X0_valueOf
  refine gr_cb ?_ ?_
  · refine gr_bd (gr_ob 39 (by decide) (by decide) rfl (r_X0_fillUpTo _)) (fun _ => ?_)
    refine gr_bd (gr_ob 39 (by decide) (by decide) rfl (r_X0_pick _ _ _)) (fun v20 => ?_)
    refine gr_cb ?_ ?_
    · refine gr_ck (fun _ => ?_)
      exact gr_ret _
    · exact gr_ret _
  · refine gr_bd (gr_ob 39 (by decide) (by decide) rfl (r_X0_forgetFirst)) (fun _ => ?_)
    exact gr_ret _
def g_X11_best (x1 : Int) : gM Int :=
  gbd (g_X11_isWithin x1 3) (fun v2 => gcz (v2) ((¬ (v2 = 0))) (gbd (g_X0_prepare x1) (fun _ => gget (-200) (fun v33 => gbd (g_X8_allPieces) (fun v40 => gbd (g_X0_valueOf 0 v33 v40) (fun v43 => gret (v43)))))) (gret ((-1))))
set_option maxRecDepth 20000 in
theorem r_X11_best (x1 : Int) : gr (f_X11_best 1 x1) (g_X11_best x1) := by
  unfold f_X11_best g_X11_best
  refine gr_bd (r_X11_isWithin _ _) (fun v2 => ?_)
  refine gr_cz ?_ ?_
  · refine gr_gfp 1 39 (by decide) (by decide) rfl rfl (by decide) ?_
    refine gr_gfp 1 2 (by decide) (by decide) rfl rfl (by decide) ?_
    refine gr_bd (gr_ob 39 (by decide) (by decide) rfl (r_X0_prepare _)) (fun _ => ?_)
    refine gr_gfp 1 39 (by decide) (by decide) rfl rfl (by decide) ?_
    refine gr_gfp 1 2 (by decide) (by decide) rfl rfl (by decide) ?_
    refine gr_gf 2 (by decide) (by decide) rfl (by decide) rfl (fun v33 => ?_)
    refine gr_gfp 1 2 (by decide) (by decide) rfl rfl (by decide) ?_
    refine gr_bd (gr_ob 2 (by decide) (by decide) rfl (r_X8_allPieces)) (fun v40 => ?_)
    refine gr_bd (gr_ob 39 (by decide) (by decide) rfl (r_X0_valueOf _ _ _)) (fun v43 => ?_)
    exact gr_ret _
  · exact gr_ret _
def g_X12_allPieces  : gM Int :=
  gal 72 3 (0) (fun v5 => gal 72 3 (1) (fun v12 => gal 72 3 (2) (fun v22 => gret (((v5 + (5 * v12)) + (25 * v22))))))
set_option maxRecDepth 20000 in
theorem r_X12_allPieces  : gr (f_X12_allPieces 69) (g_X12_allPieces ) := by
  unfold f_X12_allPieces g_X12_allPieces
  refine gr_gfp 69 72 (by decide) (by decide) rfl rfl (by decide) ?_
  refine gr_al 72 3 (by decide) (by decide) rfl (by decide) rfl (fun v5 => ?_)
  refine gr_gfp 69 72 (by decide) (by decide) rfl rfl (by decide) ?_
  refine gr_al 72 3 (by decide) (by decide) rfl (by decide) rfl (fun v12 => ?_)
  refine gr_gfp 69 72 (by decide) (by decide) rfl rfl (by decide) ?_
  refine gr_al 72 3 (by decide) (by decide) rfl (by decide) rfl (fun v22 => ?_)
  exact gr_ret _
def g_X12_leftOf (x0 : Int) (x1 : Int) : gM Int :=
  gcz (x1) ((¬ (x1 = 0))) (gcb (x1) (1) ((¬ (x1 = 1))) (gdv (x0) (25) (fun v26 => gret (v26))) (gdv (x0) (5) (fun v17 => grm (v17) (5) (fun v19 => gret (v19))))) (grm (x0) (5) (fun v6 => gret (v6)))
set_option maxRecDepth 20000 in
theorem r_X12_leftOf (x0 : Int) (x1 : Int) : gr (f_X12_leftOf x0 x1) (g_X12_leftOf x0 x1) := by
  unfold f_X12_leftOf g_X12_leftOf
  refine gr_cz ?_ ?_
  · refine gr_cb ?_ ?_
    · refine gr_dv (fun v26 => ?_)
      exact gr_ret _
    · refine gr_dv (fun v17 => ?_)
      refine gr_rm (fun v19 => ?_)
      exact gr_ret _
  · refine gr_rm (fun v6 => ?_)
    exact gr_ret _
def g_X12_bestOf_171 (rec_27 : Int × Int → gM Int) (x1 : Int) (x2 : Int) (x3 : Int) (x4 : Int) (x5 : Int) (x7 : Int) : gM Int :=
  glet ((x7 + 1)) (fun x7_171 => rec_27 (x5, x7_171))
set_option maxRecDepth 20000 in
theorem r_X12_bestOf_171 (frec_27 : Int × Int → hf_M Int) (rec_27 : Int × Int → gM Int) (hrec_27 : ∀ s : Int × Int, gr (frec_27 s) (rec_27 s)) (x1 : Int) (x2 : Int) (x3 : Int) (x4 : Int) (x5 : Int) (x7 : Int) : gr (f_X12_bestOf_171 frec_27 69 x1 x2 x3 x4 x5 x7) (g_X12_bestOf_171 rec_27 x1 x2 x3 x4 x5 x7) := by
  unfold f_X12_bestOf_171 g_X12_bestOf_171
  refine gr_let (fun x7_171 => ?_)
  exact hrec_27 _
def g_X12_bestAt (x1 : Int) (x2 : Int) (x3 : Int) : gM Int :=
  gal 91 210125 (((125 * ((41 * x1) + x2)) + x3)) (fun v15 => gret (v15))
set_option maxRecDepth 20000 in
theorem r_X12_bestAt (x1 : Int) (x2 : Int) (x3 : Int) : gr (f_X12_bestAt 69 x1 x2 x3) (g_X12_bestAt x1 x2 x3) := by
  unfold f_X12_bestAt g_X12_bestAt
  refine gr_gfp 69 91 (by decide) (by decide) rfl rfl (by decide) ?_
  refine gr_al 91 210125 (by decide) (by decide) rfl (by decide) rfl (fun v15 => ?_)
  exact gr_ret _
def g_X12_oneOf (x0 : Int) : gM Int :=
  gcz (x0) ((¬ (x0 = 0))) (gcb (x0) (1) ((¬ (x0 = 1))) (gret (25)) (gret (5))) (gret (1))
set_option maxRecDepth 20000 in
theorem r_X12_oneOf (x0 : Int) : gr (f_X12_oneOf x0) (g_X12_oneOf x0) := by
  unfold f_X12_oneOf g_X12_oneOf
  refine gr_cz ?_ ?_
  · refine gr_cb ?_ ?_
    · exact gr_ret _
    · exact gr_ret _
  · exact gr_ret _
def g_X12_ofFall_60  : gM Int :=
  gret (1000000000000)
set_option maxRecDepth 20000 in
theorem r_X12_ofFall_60  : gr (f_X12_ofFall_60 ) (g_X12_ofFall_60 ) := by
  unfold f_X12_ofFall_60 g_X12_ofFall_60
  exact gr_ret _
def g_X12_costOf (x1 : Int) : gM Int :=
  gget (-6908) (fun v1 => gget (-6909) (fun v5 => gret ((v1 + (v5 * x1)))))
set_option maxRecDepth 20000 in
theorem r_X12_costOf (x1 : Int) : gr (f_X12_costOf 69 x1) (g_X12_costOf x1) := by
  unfold f_X12_costOf g_X12_costOf
  refine gr_gf 69 (by decide) (by decide) rfl (by decide) rfl (fun v1 => ?_)
  refine gr_gf 69 (by decide) (by decide) rfl (by decide) rfl (fun v5 => ?_)
  exact gr_ret _
def g_X12_ofFall_106 (x1 : Int) (x2 : Int) (x3 : Int) (x7 : Int) (x8 : Int) (x10 : Int) (x12 : Int) (s0 : Int) : gM Int :=
  grm (x1) (2) (fun v110 => gcz (v110) ((¬ (v110 = 0))) (gal 92 42 ((x3 + 1)) (fun v153 => gal 92 42 (x7) (fun v160 => gck (hf_inI (v153 - v160)) (gal 92 42 (x7) (fun v176 => gal 92 42 (x2) (fun v182 => gck (hf_inI (v176 - v182)) (gret ((((x8 + (x12 * (v153 - v160))) + x10) + (s0 * (v176 - v182))))))))))) (gck ((hf_inL (x8 + x12)) ∧ (hf_inL (x10 + s0))) (glet ((if ((x8 + x12) ≤ (x10 + s0)) then (x10 + s0) else (x8 + x12))) (fun w141 => gret (w141)))))
set_option maxRecDepth 20000 in
theorem r_X12_ofFall_106 (x1 : Int) (x2 : Int) (x3 : Int) (x7 : Int) (x8 : Int) (x10 : Int) (x12 : Int) (s0 : Int) : gr (f_X12_ofFall_106 69 x1 x2 x3 x7 x8 x10 x12 s0) (g_X12_ofFall_106 x1 x2 x3 x7 x8 x10 x12 s0) := by
  unfold f_X12_ofFall_106 g_X12_ofFall_106
  refine gr_rm (fun v110 => ?_)
  refine gr_cz ?_ ?_
  · refine gr_gfp 69 92 (by decide) (by decide) rfl rfl (by decide) ?_
    refine gr_al 92 42 (by decide) (by decide) rfl (by decide) rfl (fun v153 => ?_)
    refine gr_gfp 69 92 (by decide) (by decide) rfl rfl (by decide) ?_
    refine gr_al 92 42 (by decide) (by decide) rfl (by decide) rfl (fun v160 => ?_)
    refine gr_ck (fun _ => ?_)
    refine gr_gfp 69 92 (by decide) (by decide) rfl rfl (by decide) ?_
    refine gr_al 92 42 (by decide) (by decide) rfl (by decide) rfl (fun v176 => ?_)
    refine gr_gfp 69 92 (by decide) (by decide) rfl rfl (by decide) ?_
    refine gr_al 92 42 (by decide) (by decide) rfl (by decide) rfl (fun v182 => ?_)
    refine gr_ck (fun _ => ?_)
    exact gr_ret _
  · refine gr_ck (fun _ => ?_)
    refine gr_let (fun w141 => ?_)
    exact gr_ret _
def g_X12_ofFall_80 (x1 : Int) (x2 : Int) (x3 : Int) (x5 : Int) (x6 : Int) (x7 : Int) (x8 : Int) (x10 : Int) (s0 : Int) : gM Int :=
  gcb (x1) (2) ((2 ≤ x1)) (gbd (g_X12_costOf x6) (fun v94 => gal 73 3 (x5) (fun v103 => gck (hf_inI (v94 + v103)) (g_X12_ofFall_106 x1 x2 x3 x7 x8 x10 s0 (v94 + v103))))) (g_X12_ofFall_106 x1 x2 x3 x7 x8 x10 s0 1)
set_option maxRecDepth 20000 in
theorem r_X12_ofFall_80 (x1 : Int) (x2 : Int) (x3 : Int) (x5 : Int) (x6 : Int) (x7 : Int) (x8 : Int) (x10 : Int) (s0 : Int) : gr (f_X12_ofFall_80 69 x1 x2 x3 x5 x6 x7 x8 x10 s0) (g_X12_ofFall_80 x1 x2 x3 x5 x6 x7 x8 x10 s0) := by
  unfold f_X12_ofFall_80 g_X12_ofFall_80
  refine gr_cb ?_ ?_
  · refine gr_bd (gr_ob 69 (by decide) (by decide) rfl (r_X12_costOf _)) (fun v94 => ?_)
    refine gr_gfp 69 73 (by decide) (by decide) rfl rfl (by decide) ?_
    refine gr_al 73 3 (by decide) (by decide) rfl (by decide) rfl (fun v103 => ?_)
    refine gr_ck (fun _ => ?_)
    exact r_X12_ofFall_106 _ _ _ _ _ _ _ _
  · exact r_X12_ofFall_106 _ _ _ _ _ _ _ _
def g_X12_ofFall (x1 : Int) (x2 : Int) (x3 : Int) (x4 : Int) (x5 : Int) (x6 : Int) : gM Int :=
  gal 71 3 (x5) (fun v8 => glet ((x6 - v8)) (fun x7_10 => gbd (g_X12_bestAt x7_10 x3 x4) (fun v18 => gbd (g_X12_oneOf x5) (fun v33 => gbd (g_X12_bestAt x2 (x7_10 - 1) (x4 - v33)) (fun v37 => gcl (v18) (1000000000000) ((1000000000000 ≤ v18)) (g_X12_ofFall_60) (gcl (v37) (1000000000000) ((v37 < 1000000000000)) (gcb (x1) (2) ((2 ≤ x1)) (gbd (g_X12_costOf x6) (fun v76 => gck (hf_inI v76) (g_X12_ofFall_80 x1 x2 x3 x5 x6 x7_10 v18 v37 v76))) (g_X12_ofFall_80 x1 x2 x3 x5 x6 x7_10 v18 v37 1)) (g_X12_ofFall_60)))))))
set_option maxRecDepth 20000 in
theorem r_X12_ofFall (x1 : Int) (x2 : Int) (x3 : Int) (x4 : Int) (x5 : Int) (x6 : Int) : gr (f_X12_ofFall 69 x1 x2 x3 x4 x5 x6) (g_X12_ofFall x1 x2 x3 x4 x5 x6) := by
  unfold f_X12_ofFall g_X12_ofFall
  refine gr_gfp 69 71 (by decide) (by decide) rfl rfl (by decide) ?_
  refine gr_al 71 3 (by decide) (by decide) rfl (by decide) rfl (fun v8 => ?_)
  refine gr_let (fun x7_10 => ?_)
  refine gr_bd (gr_ob 69 (by decide) (by decide) rfl (r_X12_bestAt _ _ _)) (fun v18 => ?_)
  refine gr_bd (r_X12_oneOf _) (fun v33 => ?_)
  refine gr_bd (gr_ob 69 (by decide) (by decide) rfl (r_X12_bestAt _ _ _)) (fun v37 => ?_)
  refine gr_cl ?_ ?_
  · exact r_X12_ofFall_60
  · refine gr_cl ?_ ?_
    · refine gr_cb ?_ ?_
      · refine gr_bd (gr_ob 69 (by decide) (by decide) rfl (r_X12_costOf _)) (fun v76 => ?_)
        refine gr_ck (fun _ => ?_)
        exact r_X12_ofFall_80 _ _ _ _ _ _ _ _ _
      · exact r_X12_ofFall_80 _ _ _ _ _ _ _ _ _
    · exact r_X12_ofFall_60
def g_X12_bestOf_165 (rec_27 : Int × Int → gM Int) (rec_116 : Int × Int → gM Int) (x1 : Int) (x2 : Int) (x3 : Int) (x4 : Int) (x5 : Int) (x7 : Int) (x9 : Int) (x10 : Int) : gM Int :=
  glet ((x10 + 1)) (fun x10_165 => rec_116 (x5, x10_165))
set_option maxRecDepth 20000 in
theorem r_X12_bestOf_165 (frec_27 : Int × Int → hf_M Int) (rec_27 : Int × Int → gM Int) (hrec_27 : ∀ s : Int × Int, gr (frec_27 s) (rec_27 s)) (frec_116 : Int × Int → hf_M Int) (rec_116 : Int × Int → gM Int) (hrec_116 : ∀ s : Int × Int, gr (frec_116 s) (rec_116 s)) (x1 : Int) (x2 : Int) (x3 : Int) (x4 : Int) (x5 : Int) (x7 : Int) (x9 : Int) (x10 : Int) : gr (f_X12_bestOf_165 frec_27 frec_116 69 x1 x2 x3 x4 x5 x7 x9 x10) (g_X12_bestOf_165 rec_27 rec_116 x1 x2 x3 x4 x5 x7 x9 x10) := by
  unfold f_X12_bestOf_165 g_X12_bestOf_165
  refine gr_let (fun x10_165 => ?_)
  exact hrec_116 _
def gB_X12_bestOf_116 (rec_27 : Int × Int → gM Int) (x1 : Int) (x2 : Int) (x3 : Int) (x4 : Int) (x7 : Int) (x9 : Int) (rec_116 : Int × Int → gM Int) (x5 : Int) (x10 : Int) : gM Int :=
  gcb (x10) (x9) ((x9 < x10)) (g_X12_bestOf_171 rec_27 x1 x2 x3 x4 x5 x7) (gbd (g_X12_ofFall x1 x2 x3 x4 x7 x10) (fun v133 => gcl (v133) (x5) ((v133 < x5)) (gput (-6952) (x7) (gput (-6953) (x10) (g_X12_bestOf_165 rec_27 rec_116 x1 x2 x3 x4 v133 x7 x9 x10))) (g_X12_bestOf_165 rec_27 rec_116 x1 x2 x3 x4 x5 x7 x9 x10)))
set_option maxRecDepth 20000 in
theorem rB_X12_bestOf_116 (frec_27 : Int × Int → hf_M Int) (rec_27 : Int × Int → gM Int) (hrec_27 : ∀ s : Int × Int, gr (frec_27 s) (rec_27 s)) (x1 : Int) (x2 : Int) (x3 : Int) (x4 : Int) (x7 : Int) (x9 : Int) (frec_116 : Int × Int → hf_M Int) (rec_116 : Int × Int → gM Int) (hrec_116 : ∀ s : Int × Int, gr (frec_116 s) (rec_116 s)) (x5 : Int) (x10 : Int) : gr (B_X12_bestOf_116 frec_27 69 x1 x2 x3 x4 x7 x9 frec_116 x5 x10) (gB_X12_bestOf_116 rec_27 x1 x2 x3 x4 x7 x9 rec_116 x5 x10) := by
  unfold B_X12_bestOf_116 gB_X12_bestOf_116
  refine gr_cb ?_ ?_
  · exact r_X12_bestOf_171 frec_27 rec_27 hrec_27 _ _ _ _ _ _
  · refine gr_bd (gr_ob 69 (by decide) (by decide) rfl (r_X12_ofFall _ _ _ _ _ _)) (fun v133 => ?_)
    refine gr_cl ?_ ?_
    · refine gr_pf 69 (by decide) (by decide) rfl (by decide) (by decide) rfl rfl ?_
      refine gr_pf 69 (by decide) (by decide) rfl (by decide) (by decide) rfl rfl ?_
      exact r_X12_bestOf_165 frec_27 rec_27 hrec_27 frec_116 rec_116 hrec_116 _ _ _ _ _ _ _ _
    · exact r_X12_bestOf_165 frec_27 rec_27 hrec_27 frec_116 rec_116 hrec_116 _ _ _ _ _ _ _ _
def g_X12_bestOf_116 (rec_27 : Int × Int → gM Int) (x1 : Int) (x2 : Int) (x3 : Int) (x4 : Int) (x5 : Int) (x7 : Int) (x9 : Int) (x10 : Int) : gM Int :=
  gfx (fun rec s => gB_X12_bestOf_116 rec_27 x1 x2 x3 x4 x7 x9 rec s.1 s.2) hf_N (x5, x10)
set_option maxRecDepth 20000 in
theorem r_X12_bestOf_116 (frec_27 : Int × Int → hf_M Int) (rec_27 : Int × Int → gM Int) (hrec_27 : ∀ s : Int × Int, gr (frec_27 s) (rec_27 s)) (x1 : Int) (x2 : Int) (x3 : Int) (x4 : Int) (x5 : Int) (x7 : Int) (x9 : Int) (x10 : Int) : gr (f_X12_bestOf_116 frec_27 69 x1 x2 x3 x4 x5 x7 x9 x10) (g_X12_bestOf_116 rec_27 x1 x2 x3 x4 x5 x7 x9 x10) := by
  unfold f_X12_bestOf_116 g_X12_bestOf_116
  refine gr_fx (fun frec rec hrec s => ?_) _ _
  exact rB_X12_bestOf_116 _ _ hrec_27 _ _ _ _ _ _ _ _ hrec _ _
def g_X12_bestOf_110 (rec_27 : Int × Int → gM Int) (x1 : Int) (x2 : Int) (x3 : Int) (x4 : Int) (x5 : Int) (x7 : Int) (x8 : Int) (s0 : Int) : gM Int :=
  g_X12_bestOf_116 rec_27 x1 x2 x3 x4 x5 x7 s0 x8
set_option maxRecDepth 20000 in
theorem r_X12_bestOf_110 (frec_27 : Int × Int → hf_M Int) (rec_27 : Int × Int → gM Int) (hrec_27 : ∀ s : Int × Int, gr (frec_27 s) (rec_27 s)) (x1 : Int) (x2 : Int) (x3 : Int) (x4 : Int) (x5 : Int) (x7 : Int) (x8 : Int) (s0 : Int) : gr (f_X12_bestOf_110 frec_27 69 x1 x2 x3 x4 x5 x7 x8 s0) (g_X12_bestOf_110 rec_27 x1 x2 x3 x4 x5 x7 x8 s0) := by
  unfold f_X12_bestOf_110 g_X12_bestOf_110
  exact r_X12_bestOf_116 frec_27 rec_27 hrec_27 _ _ _ _ _ _ _ _
def g_X12_bestOf_76 (rec_27 : Int × Int → gM Int) (x1 : Int) (x2 : Int) (x3 : Int) (x4 : Int) (x5 : Int) (x7 : Int) (s0 : Int) : gM Int :=
  gal 71 3 (x7) (fun v85 => gget (-6903) (fun v88 => gcb ((x3 + v85)) (v88) ((v88 ≤ (x3 + v85))) (gget (-6903) (fun v107 => g_X12_bestOf_110 rec_27 x1 x2 x3 x4 x5 x7 s0 v107)) (gal 71 3 (x7) (fun v101 => g_X12_bestOf_110 rec_27 x1 x2 x3 x4 x5 x7 s0 (x3 + v101)))))
set_option maxRecDepth 20000 in
theorem r_X12_bestOf_76 (frec_27 : Int × Int → hf_M Int) (rec_27 : Int × Int → gM Int) (hrec_27 : ∀ s : Int × Int, gr (frec_27 s) (rec_27 s)) (x1 : Int) (x2 : Int) (x3 : Int) (x4 : Int) (x5 : Int) (x7 : Int) (s0 : Int) : gr (f_X12_bestOf_76 frec_27 69 x1 x2 x3 x4 x5 x7 s0) (g_X12_bestOf_76 rec_27 x1 x2 x3 x4 x5 x7 s0) := by
  unfold f_X12_bestOf_76 g_X12_bestOf_76
  refine gr_gfp 69 71 (by decide) (by decide) rfl rfl (by decide) ?_
  refine gr_al 71 3 (by decide) (by decide) rfl (by decide) rfl (fun v85 => ?_)
  refine gr_gf 69 (by decide) (by decide) rfl (by decide) rfl (fun v88 => ?_)
  refine gr_cb ?_ ?_
  · refine gr_gf 69 (by decide) (by decide) rfl (by decide) rfl (fun v107 => ?_)
    exact r_X12_bestOf_110 frec_27 rec_27 hrec_27 _ _ _ _ _ _ _ _
  · refine gr_gfp 69 71 (by decide) (by decide) rfl rfl (by decide) ?_
    refine gr_al 71 3 (by decide) (by decide) rfl (by decide) rfl (fun v101 => ?_)
    exact r_X12_bestOf_110 frec_27 rec_27 hrec_27 _ _ _ _ _ _ _ _
def gB_X12_bestOf_27 (x1 : Int) (x2 : Int) (x3 : Int) (x4 : Int) (rec_27 : Int × Int → gM Int) (x5 : Int) (x7 : Int) : gM Int :=
  gcb (x7) (3) ((3 ≤ x7)) (gret (x5)) (gbd (g_X12_leftOf x4 x7) (fun v37 => gcz (v37) ((¬ (v37 = 0))) (gal 71 3 (x7) (fun v55 => gcb (((x2 + 1) + v55)) (1) ((((x2 + 1) + v55) ≤ 1)) (g_X12_bestOf_76 rec_27 x1 x2 x3 x4 x5 x7 1) (gal 71 3 (x7) (fun v70 => g_X12_bestOf_76 rec_27 x1 x2 x3 x4 x5 x7 ((x2 + 1) + v70))))) (g_X12_bestOf_171 rec_27 x1 x2 x3 x4 x5 x7)))
set_option maxRecDepth 20000 in
theorem rB_X12_bestOf_27 (x1 : Int) (x2 : Int) (x3 : Int) (x4 : Int) (frec_27 : Int × Int → hf_M Int) (rec_27 : Int × Int → gM Int) (hrec_27 : ∀ s : Int × Int, gr (frec_27 s) (rec_27 s)) (x5 : Int) (x7 : Int) : gr (B_X12_bestOf_27 69 x1 x2 x3 x4 frec_27 x5 x7) (gB_X12_bestOf_27 x1 x2 x3 x4 rec_27 x5 x7) := by
  unfold B_X12_bestOf_27 gB_X12_bestOf_27
  refine gr_cb ?_ ?_
  · exact gr_ret _
  · refine gr_bd (r_X12_leftOf _ _) (fun v37 => ?_)
    refine gr_cz ?_ ?_
    · refine gr_gfp 69 71 (by decide) (by decide) rfl rfl (by decide) ?_
      refine gr_al 71 3 (by decide) (by decide) rfl (by decide) rfl (fun v55 => ?_)
      refine gr_cb ?_ ?_
      · exact r_X12_bestOf_76 frec_27 rec_27 hrec_27 _ _ _ _ _ _ _
      · refine gr_gfp 69 71 (by decide) (by decide) rfl rfl (by decide) ?_
        refine gr_al 71 3 (by decide) (by decide) rfl (by decide) rfl (fun v70 => ?_)
        exact r_X12_bestOf_76 frec_27 rec_27 hrec_27 _ _ _ _ _ _ _
    · exact r_X12_bestOf_171 frec_27 rec_27 hrec_27 _ _ _ _ _ _
def g_X12_bestOf_27 (x1 : Int) (x2 : Int) (x3 : Int) (x4 : Int) (x5 : Int) (x7 : Int) : gM Int :=
  gfx (fun rec s => gB_X12_bestOf_27 x1 x2 x3 x4 rec s.1 s.2) hf_N (x5, x7)
set_option maxRecDepth 20000 in
theorem r_X12_bestOf_27 (x1 : Int) (x2 : Int) (x3 : Int) (x4 : Int) (x5 : Int) (x7 : Int) : gr (f_X12_bestOf_27 69 x1 x2 x3 x4 x5 x7) (g_X12_bestOf_27 x1 x2 x3 x4 x5 x7) := by
  unfold f_X12_bestOf_27 g_X12_bestOf_27
  refine gr_fx (fun frec rec hrec s => ?_) _ _
  exact rB_X12_bestOf_27 _ _ _ _ _ _ hrec _ _
def g_X12_bestOf_12 (x1 : Int) (x2 : Int) (x3 : Int) (x4 : Int) (s0 : Int) : gM Int :=
  gput (-6952) ((-1)) (gput (-6953) ((-1)) (g_X12_bestOf_27 x1 x2 x3 x4 s0 0))
set_option maxRecDepth 20000 in
theorem r_X12_bestOf_12 (x1 : Int) (x2 : Int) (x3 : Int) (x4 : Int) (s0 : Int) : gr (f_X12_bestOf_12 69 x1 x2 x3 x4 s0) (g_X12_bestOf_12 x1 x2 x3 x4 s0) := by
  unfold f_X12_bestOf_12 g_X12_bestOf_12
  refine gr_pf 69 (by decide) (by decide) rfl (by decide) (by decide) rfl rfl ?_
  refine gr_pf 69 (by decide) (by decide) rfl (by decide) (by decide) rfl rfl ?_
  exact r_X12_bestOf_27 _ _ _ _ _ _
def g_X12_bestOf (x1 : Int) (x2 : Int) (x3 : Int) (x4 : Int) : gM Int :=
  gcb (x2) (x3) ((¬ (x2 = x3))) (g_X12_bestOf_12 x1 x2 x3 x4 1000000000000) (g_X12_bestOf_12 x1 x2 x3 x4 0)
set_option maxRecDepth 20000 in
theorem r_X12_bestOf (x1 : Int) (x2 : Int) (x3 : Int) (x4 : Int) : gr (f_X12_bestOf 69 x1 x2 x3 x4) (g_X12_bestOf x1 x2 x3 x4) := by
  unfold f_X12_bestOf g_X12_bestOf
  refine gr_cb ?_ ?_
  · exact r_X12_bestOf_12 _ _ _ _ _
  · exact r_X12_bestOf_12 _ _ _ _ _
def g_X12_isWithin (x0 : Int) (x1 : Int) : gM Int :=
  gbd (g_X12_leftOf x0 0) (fun v2 => gbd (g_X12_leftOf x1 0) (fun v7 => gcb (v2) (v7) ((v7 < v2)) (gret (0)) (gbd (g_X12_leftOf x0 1) (fun v15 => gbd (g_X12_leftOf x1 1) (fun v20 => gcb (v15) (v20) ((v20 < v15)) (gret (0)) (gbd (g_X12_leftOf x0 2) (fun v28 => gbd (g_X12_leftOf x1 2) (fun v33 => gcb (v28) (v33) ((v33 < v28)) (gret (0)) (gret (1))))))))))
set_option maxRecDepth 20000 in
theorem r_X12_isWithin (x0 : Int) (x1 : Int) : gr (f_X12_isWithin x0 x1) (g_X12_isWithin x0 x1) := by
  unfold f_X12_isWithin g_X12_isWithin
  refine gr_bd (r_X12_leftOf _ _) (fun v2 => ?_)
  refine gr_bd (r_X12_leftOf _ _) (fun v7 => ?_)
  refine gr_cb ?_ ?_
  · exact gr_ret _
  · refine gr_bd (r_X12_leftOf _ _) (fun v15 => ?_)
    refine gr_bd (r_X12_leftOf _ _) (fun v20 => ?_)
    refine gr_cb ?_ ?_
    · exact gr_ret _
    · refine gr_bd (r_X12_leftOf _ _) (fun v28 => ?_)
      refine gr_bd (r_X12_leftOf _ _) (fun v33 => ?_)
      refine gr_cb ?_ ?_
      · exact gr_ret _
      · exact gr_ret _
def g_X12_layBest_121 (rec_45 : Int → gM Int) (rec_56 : Int → gM Int) (rec_68 : Int → gM Int) (x1 : Int) (x2 : Int) (x3 : Int) (x4 : Int) (x5 : Int) (x6 : Int) (x7 : Int) : gM Int :=
  glet ((x7 + 1)) (fun x7_121 => rec_68 x7_121)
set_option maxRecDepth 20000 in
theorem r_X12_layBest_121 (frec_45 : Int → hf_M Int) (rec_45 : Int → gM Int) (hrec_45 : ∀ s : Int, gr (frec_45 s) (rec_45 s)) (frec_56 : Int → hf_M Int) (rec_56 : Int → gM Int) (hrec_56 : ∀ s : Int, gr (frec_56 s) (rec_56 s)) (frec_68 : Int → hf_M Int) (rec_68 : Int → gM Int) (hrec_68 : ∀ s : Int, gr (frec_68 s) (rec_68 s)) (x1 : Int) (x2 : Int) (x3 : Int) (x4 : Int) (x5 : Int) (x6 : Int) (x7 : Int) : gr (f_X12_layBest_121 frec_45 frec_56 frec_68 69 x1 x2 x3 x4 x5 x6 x7) (g_X12_layBest_121 rec_45 rec_56 rec_68 x1 x2 x3 x4 x5 x6 x7) := by
  unfold f_X12_layBest_121 g_X12_layBest_121
  refine gr_let (fun x7_121 => ?_)
  exact hrec_68 _
def gB_X12_layBest_68 (rec_45 : Int → gM Int) (rec_56 : Int → gM Int) (x1 : Int) (x2 : Int) (x3 : Int) (x4 : Int) (x5 : Int) (x6 : Int) (rec_68 : Int → gM Int) (x7 : Int) : gM Int :=
  gcb (x7) (x4) ((x4 < x7)) (glet ((x6 + 1)) (fun x6_127 => rec_56 x6_127)) (gbd (g_X12_isWithin x7 x4) (fun v79 => gcz (v79) ((v79 = 0)) (g_X12_layBest_121 rec_45 rec_56 rec_68 x1 x2 x3 x4 x5 x6 x7) (gbd (g_X12_bestOf x1 x6 (x6 + x5) x7) (fun v117 => gas 91 210125 (((125 * (((41 * x6) + x6) + x5)) + x7)) (v117) (g_X12_layBest_121 rec_45 rec_56 rec_68 x1 x2 x3 x4 x5 x6 x7)))))
set_option maxRecDepth 20000 in
theorem rB_X12_layBest_68 (frec_45 : Int → hf_M Int) (rec_45 : Int → gM Int) (hrec_45 : ∀ s : Int, gr (frec_45 s) (rec_45 s)) (frec_56 : Int → hf_M Int) (rec_56 : Int → gM Int) (hrec_56 : ∀ s : Int, gr (frec_56 s) (rec_56 s)) (x1 : Int) (x2 : Int) (x3 : Int) (x4 : Int) (x5 : Int) (x6 : Int) (frec_68 : Int → hf_M Int) (rec_68 : Int → gM Int) (hrec_68 : ∀ s : Int, gr (frec_68 s) (rec_68 s)) (x7 : Int) : gr (B_X12_layBest_68 frec_45 frec_56 69 x1 x2 x3 x4 x5 x6 frec_68 x7) (gB_X12_layBest_68 rec_45 rec_56 x1 x2 x3 x4 x5 x6 rec_68 x7) := by
  unfold B_X12_layBest_68 gB_X12_layBest_68
  refine gr_cb ?_ ?_
  · refine gr_let (fun x6_127 => ?_)
    exact hrec_56 _
  · refine gr_bd (r_X12_isWithin _ _) (fun v79 => ?_)
    refine gr_cz ?_ ?_
    · exact r_X12_layBest_121 frec_45 rec_45 hrec_45 frec_56 rec_56 hrec_56 frec_68 rec_68 hrec_68 _ _ _ _ _ _ _
    · refine gr_gfp 69 91 (by decide) (by decide) rfl rfl (by decide) ?_
      refine gr_bd (gr_ob 69 (by decide) (by decide) rfl (r_X12_bestOf _ _ _ _)) (fun v117 => ?_)
      refine gr_as 91 210125 (by decide) (by decide) rfl (by decide) rfl rfl ?_
      exact r_X12_layBest_121 frec_45 rec_45 hrec_45 frec_56 rec_56 hrec_56 frec_68 rec_68 hrec_68 _ _ _ _ _ _ _
def g_X12_layBest_68 (rec_45 : Int → gM Int) (rec_56 : Int → gM Int) (x1 : Int) (x2 : Int) (x3 : Int) (x4 : Int) (x5 : Int) (x6 : Int) (x7 : Int) : gM Int :=
  gfx (fun rec s => gB_X12_layBest_68 rec_45 rec_56 x1 x2 x3 x4 x5 x6 rec s) hf_N x7
set_option maxRecDepth 20000 in
theorem r_X12_layBest_68 (frec_45 : Int → hf_M Int) (rec_45 : Int → gM Int) (hrec_45 : ∀ s : Int, gr (frec_45 s) (rec_45 s)) (frec_56 : Int → hf_M Int) (rec_56 : Int → gM Int) (hrec_56 : ∀ s : Int, gr (frec_56 s) (rec_56 s)) (x1 : Int) (x2 : Int) (x3 : Int) (x4 : Int) (x5 : Int) (x6 : Int) (x7 : Int) : gr (f_X12_layBest_68 frec_45 frec_56 69 x1 x2 x3 x4 x5 x6 x7) (g_X12_layBest_68 rec_45 rec_56 x1 x2 x3 x4 x5 x6 x7) := by
  unfold f_X12_layBest_68 g_X12_layBest_68
  refine gr_fx (fun frec rec hrec s => ?_) _ _
  exact rB_X12_layBest_68 _ _ hrec_45 _ _ hrec_56 _ _ _ _ _ _ _ _ hrec _
def gB_X12_layBest_56 (rec_45 : Int → gM Int) (x1 : Int) (x2 : Int) (x3 : Int) (x4 : Int) (x5 : Int) (rec_56 : Int → gM Int) (x6 : Int) : gM Int :=
  gcb ((x6 + x5)) (x3) ((x3 < (x6 + x5))) (glet ((x5 + 1)) (fun x5_133 => rec_45 x5_133)) (g_X12_layBest_68 rec_45 rec_56 x1 x2 x3 x4 x5 x6 0)
set_option maxRecDepth 20000 in
theorem rB_X12_layBest_56 (frec_45 : Int → hf_M Int) (rec_45 : Int → gM Int) (hrec_45 : ∀ s : Int, gr (frec_45 s) (rec_45 s)) (x1 : Int) (x2 : Int) (x3 : Int) (x4 : Int) (x5 : Int) (frec_56 : Int → hf_M Int) (rec_56 : Int → gM Int) (hrec_56 : ∀ s : Int, gr (frec_56 s) (rec_56 s)) (x6 : Int) : gr (B_X12_layBest_56 frec_45 69 x1 x2 x3 x4 x5 frec_56 x6) (gB_X12_layBest_56 rec_45 x1 x2 x3 x4 x5 rec_56 x6) := by
  unfold B_X12_layBest_56 gB_X12_layBest_56
  refine gr_cb ?_ ?_
  · refine gr_let (fun x5_133 => ?_)
    exact hrec_45 _
  · exact r_X12_layBest_68 frec_45 rec_45 hrec_45 frec_56 rec_56 hrec_56 _ _ _ _ _ _ _
def g_X12_layBest_56 (rec_45 : Int → gM Int) (x1 : Int) (x2 : Int) (x3 : Int) (x4 : Int) (x5 : Int) (x6 : Int) : gM Int :=
  gfx (fun rec s => gB_X12_layBest_56 rec_45 x1 x2 x3 x4 x5 rec s) hf_N x6
set_option maxRecDepth 20000 in
theorem r_X12_layBest_56 (frec_45 : Int → hf_M Int) (rec_45 : Int → gM Int) (hrec_45 : ∀ s : Int, gr (frec_45 s) (rec_45 s)) (x1 : Int) (x2 : Int) (x3 : Int) (x4 : Int) (x5 : Int) (x6 : Int) : gr (f_X12_layBest_56 frec_45 69 x1 x2 x3 x4 x5 x6) (g_X12_layBest_56 rec_45 x1 x2 x3 x4 x5 x6) := by
  unfold f_X12_layBest_56 g_X12_layBest_56
  refine gr_fx (fun frec rec hrec s => ?_) _ _
  exact rB_X12_layBest_56 _ _ hrec_45 _ _ _ _ _ _ _ hrec _
def gB_X12_layBest_45 (x1 : Int) (x2 : Int) (x3 : Int) (x4 : Int) (rec_45 : Int → gM Int) (x5 : Int) : gM Int :=
  gcb (x5) ((x3 - x2)) (((x3 - x2) < x5)) (gbd (g_X12_bestOf x1 x2 x3 x4) (fun v145 => gret (v145))) (g_X12_layBest_56 rec_45 x1 x2 x3 x4 x5 x2)
set_option maxRecDepth 20000 in
theorem rB_X12_layBest_45 (x1 : Int) (x2 : Int) (x3 : Int) (x4 : Int) (frec_45 : Int → hf_M Int) (rec_45 : Int → gM Int) (hrec_45 : ∀ s : Int, gr (frec_45 s) (rec_45 s)) (x5 : Int) : gr (B_X12_layBest_45 69 x1 x2 x3 x4 frec_45 x5) (gB_X12_layBest_45 x1 x2 x3 x4 rec_45 x5) := by
  unfold B_X12_layBest_45 gB_X12_layBest_45
  refine gr_cb ?_ ?_
  · refine gr_bd (gr_ob 69 (by decide) (by decide) rfl (r_X12_bestOf _ _ _ _)) (fun v145 => ?_)
    exact gr_ret _
  · exact r_X12_layBest_56 frec_45 rec_45 hrec_45 _ _ _ _ _ _
def g_X12_layBest_45 (x1 : Int) (x2 : Int) (x3 : Int) (x4 : Int) (x5 : Int) : gM Int :=
  gfx (fun rec s => gB_X12_layBest_45 x1 x2 x3 x4 rec s) hf_N x5
set_option maxRecDepth 20000 in
theorem r_X12_layBest_45 (x1 : Int) (x2 : Int) (x3 : Int) (x4 : Int) (x5 : Int) : gr (f_X12_layBest_45 69 x1 x2 x3 x4 x5) (g_X12_layBest_45 x1 x2 x3 x4 x5) := by
  unfold f_X12_layBest_45 g_X12_layBest_45
  refine gr_fx (fun frec rec hrec s => ?_) _ _
  exact rB_X12_layBest_45 _ _ _ _ _ _ hrec _
def gB_X12_layBest_3 (x1 : Int) (x2 : Int) (x3 : Int) (x4 : Int) (rec_3 : Int → gM Int) (x5 : Int) : gM Int :=
  gget (-6903) (fun v6 => gcb (x5) (v6) ((v6 < x5)) (g_X12_layBest_45 x1 x2 x3 x4 0) (gal 92 42 (x5) (fun v26 => gal 74 41 (x5) (fun v33 => gas 92 42 ((x5 + 1)) ((v26 + v33)) (glet ((x5 + 1)) (fun x5_36 => rec_3 x5_36))))))
set_option maxRecDepth 20000 in
theorem rB_X12_layBest_3 (x1 : Int) (x2 : Int) (x3 : Int) (x4 : Int) (frec_3 : Int → hf_M Int) (rec_3 : Int → gM Int) (hrec_3 : ∀ s : Int, gr (frec_3 s) (rec_3 s)) (x5 : Int) : gr (B_X12_layBest_3 69 x1 x2 x3 x4 frec_3 x5) (gB_X12_layBest_3 x1 x2 x3 x4 rec_3 x5) := by
  unfold B_X12_layBest_3 gB_X12_layBest_3
  refine gr_gf 69 (by decide) (by decide) rfl (by decide) rfl (fun v6 => ?_)
  refine gr_cb ?_ ?_
  · exact r_X12_layBest_45 _ _ _ _ _
  · refine gr_gfp 69 92 (by decide) (by decide) rfl rfl (by decide) ?_
    refine gr_gfp 69 92 (by decide) (by decide) rfl rfl (by decide) ?_
    refine gr_al 92 42 (by decide) (by decide) rfl (by decide) rfl (fun v26 => ?_)
    refine gr_gfp 69 74 (by decide) (by decide) rfl rfl (by decide) ?_
    refine gr_al 74 41 (by decide) (by decide) rfl (by decide) rfl (fun v33 => ?_)
    refine gr_as 92 42 (by decide) (by decide) rfl (by decide) rfl rfl ?_
    refine gr_let (fun x5_36 => ?_)
    exact hrec_3 _
def g_X12_layBest_3 (x1 : Int) (x2 : Int) (x3 : Int) (x4 : Int) (x5 : Int) : gM Int :=
  gfx (fun rec s => gB_X12_layBest_3 x1 x2 x3 x4 rec s) hf_N x5
set_option maxRecDepth 20000 in
theorem r_X12_layBest_3 (x1 : Int) (x2 : Int) (x3 : Int) (x4 : Int) (x5 : Int) : gr (f_X12_layBest_3 69 x1 x2 x3 x4 x5) (g_X12_layBest_3 x1 x2 x3 x4 x5) := by
  unfold f_X12_layBest_3 g_X12_layBest_3
  refine gr_fx (fun frec rec hrec s => ?_) _ _
  exact rB_X12_layBest_3 _ _ _ _ _ _ hrec _
def g_X12_layBest (x1 : Int) (x2 : Int) (x3 : Int) (x4 : Int) : gM Int :=
  g_X12_layBest_3 x1 x2 x3 x4 0
set_option maxRecDepth 20000 in
theorem r_X12_layBest (x1 : Int) (x2 : Int) (x3 : Int) (x4 : Int) : gr (f_X12_layBest 69 x1 x2 x3 x4) (g_X12_layBest x1 x2 x3 x4) := by
  unfold f_X12_layBest g_X12_layBest
  exact r_X12_layBest_3 _ _ _ _ _
def g_X12_best (x1 : Int) : gM Int :=
  gput (-6902) (0) (gbd (g_X12_isIn x1 0 3) (fun v8 => gcz (v8) ((¬ (v8 = 0))) (gget (-6903) (fun v22 => gbd (g_X12_allPieces) (fun v26 => gbd (g_X12_layBest x1 0 v22 v26) (fun v29 => gcl (v29) (1000000000000) ((v29 < 1000000000000)) (gret (v29)) (gret ((-2))))))) (gret ((-1)))))
set_option maxRecDepth 20000 in
theorem r_X12_best (x1 : Int) : gr (f_X12_best 69 x1) (g_X12_best x1) := by
  unfold f_X12_best g_X12_best
  refine gr_pf 69 (by decide) (by decide) rfl (by decide) (by decide) rfl rfl ?_
  refine gr_bd (r_X12_isIn _ _ _) (fun v8 => ?_)
  refine gr_cz ?_ ?_
  · refine gr_gf 69 (by decide) (by decide) rfl (by decide) rfl (fun v22 => ?_)
    refine gr_bd (gr_ob 69 (by decide) (by decide) rfl (r_X12_allPieces)) (fun v26 => ?_)
    refine gr_bd (gr_ob 69 (by decide) (by decide) rfl (r_X12_layBest _ _ _ _)) (fun v29 => ?_)
    refine gr_cl ?_ ?_
    · exact gr_ret _
    · exact gr_ret _
  · exact gr_ret _
def g_X11_next_47  : gM Int :=
  gret ((-1))
set_option maxRecDepth 20000 in
theorem r_X11_next_47  : gr (f_X11_next_47 ) (g_X11_next_47 ) := by
  unfold f_X11_next_47 g_X11_next_47
  exact gr_ret _
def g_X11_next (x1 : Int) (x2 : Int) (x3 : Int) (x4 : Int) (x5 : Int) : gM Int :=
  gbd (g_X11_isWithin x1 3) (fun v2 => gcz (v2) ((v2 = 0)) (g_X11_next_47) (gcz (x2) ((x2 < 0)) (g_X11_next_47) (gcb (x2) (x3) ((x3 < x2)) (g_X11_next_47) (gget (-200) (fun v22 => gcb (x3) (v22) ((v22 < x3)) (g_X11_next_47) (gbd (g_X11_isWithin x4 124) (fun v32 => gcz (v32) ((v32 = 0)) (g_X11_next_47) (gbd (g_X11_isWithin x5 2) (fun v41 => gcz (v41) ((¬ (v41 = 0))) (gbd (g_X0_prepare x1) (fun _ => gbd (g_X0_valueOf x2 x3 x4) (fun v71 => gck (hf_inI x5) (git ((x5 = 0)) (gret (v71)) (git ((x5 = 1)) (gget (-3916) (fun v111 => gck (hf_inI v111) (gret (v111)))) (gget (-3917) (fun v120 => gck (hf_inI v120) (gret (v120))))))))) (g_X11_next_47))))))))))
set_option maxRecDepth 20000 in
theorem r_X11_next (x1 : Int) (x2 : Int) (x3 : Int) (x4 : Int) (x5 : Int) : gr (f_X11_next 1 x1 x2 x3 x4 x5) (g_X11_next x1 x2 x3 x4 x5) := by
  unfold f_X11_next g_X11_next
  refine gr_bd (r_X11_isWithin _ _) (fun v2 => ?_)
  refine gr_cz ?_ ?_
  · exact r_X11_next_47
  · refine gr_cz ?_ ?_
    · exact r_X11_next_47
    · refine gr_cb ?_ ?_
      · exact r_X11_next_47
      · refine gr_gfp 1 2 (by decide) (by decide) rfl rfl (by decide) ?_
        refine gr_gf 2 (by decide) (by decide) rfl (by decide) rfl (fun v22 => ?_)
        refine gr_cb ?_ ?_
        · exact r_X11_next_47
        · refine gr_bd (r_X11_isWithin _ _) (fun v32 => ?_)
          refine gr_cz ?_ ?_
          · exact r_X11_next_47
          · refine gr_bd (r_X11_isWithin _ _) (fun v41 => ?_)
            refine gr_cz ?_ ?_
            · refine gr_gfp 1 39 (by decide) (by decide) rfl rfl (by decide) ?_
              refine gr_gfp 1 2 (by decide) (by decide) rfl rfl (by decide) ?_
              refine gr_bd (gr_ob 39 (by decide) (by decide) rfl (r_X0_prepare _)) (fun _ => ?_)
              refine gr_gfp 1 39 (by decide) (by decide) rfl rfl (by decide) ?_
              refine gr_bd (gr_ob 39 (by decide) (by decide) rfl (r_X0_valueOf _ _ _)) (fun v71 => ?_)
              refine gr_ck (fun _ => ?_)
              refine gr_it ?_ ?_
              · exact gr_ret _
              · refine gr_it ?_ ?_
                · refine gr_gfp 1 39 (by decide) (by decide) rfl rfl (by decide) ?_
                  refine gr_gf 39 (by decide) (by decide) rfl (by decide) rfl (fun v111 => ?_)
                  refine gr_ck (fun _ => ?_)
                  exact gr_ret _
                · refine gr_gfp 1 39 (by decide) (by decide) rfl rfl (by decide) ?_
                  refine gr_gf 39 (by decide) (by decide) rfl (by decide) rfl (fun v120 => ?_)
                  refine gr_ck (fun _ => ?_)
                  exact gr_ret _
            · exact r_X11_next_47
def g_X12_next_52  : gM Int :=
  gret ((-1))
set_option maxRecDepth 20000 in
theorem r_X12_next_52  : gr (f_X12_next_52 ) (g_X12_next_52 ) := by
  unfold f_X12_next_52 g_X12_next_52
  exact gr_ret _
def g_X12_next (x1 : Int) (x2 : Int) (x3 : Int) (x4 : Int) (x5 : Int) : gM Int :=
  gput (-6902) (0) (gbd (g_X12_isIn x1 0 3) (fun v8 => gcz (v8) ((v8 = 0)) (g_X12_next_52) (gcz (x2) ((x2 < 0)) (g_X12_next_52) (gcb (x3) (x2) ((x3 < x2)) (g_X12_next_52) (gget (-6903) (fun v25 => gcb (x3) (v25) ((v25 < x3)) (g_X12_next_52) (gbd (g_X12_isIn x4 0 124) (fun v36 => gcz (v36) ((v36 = 0)) (g_X12_next_52) (gbd (g_X12_isIn x5 0 2) (fun v46 => gcz (v46) ((¬ (v46 = 0))) (gbd (g_X12_layBest x1 x2 x3 x4) (fun v62 => gcb (x5) (1) ((¬ (x5 = 1))) (gcb (x5) (2) ((¬ (x5 = 2))) (gcl (v62) (1000000000000) ((v62 < 1000000000000)) (gret (v62)) (gret ((-2)))) (gget (-6953) (fun v88 => gck (hf_inI v88) (gret (v88))))) (gget (-6952) (fun v74 => gck (hf_inI v74) (gret (v74)))))) (g_X12_next_52)))))))))))
set_option maxRecDepth 20000 in
theorem r_X12_next (x1 : Int) (x2 : Int) (x3 : Int) (x4 : Int) (x5 : Int) : gr (f_X12_next 69 x1 x2 x3 x4 x5) (g_X12_next x1 x2 x3 x4 x5) := by
  unfold f_X12_next g_X12_next
  refine gr_pf 69 (by decide) (by decide) rfl (by decide) (by decide) rfl rfl ?_
  refine gr_bd (r_X12_isIn _ _ _) (fun v8 => ?_)
  refine gr_cz ?_ ?_
  · exact r_X12_next_52
  · refine gr_cz ?_ ?_
    · exact r_X12_next_52
    · refine gr_cb ?_ ?_
      · exact r_X12_next_52
      · refine gr_gf 69 (by decide) (by decide) rfl (by decide) rfl (fun v25 => ?_)
        refine gr_cb ?_ ?_
        · exact r_X12_next_52
        · refine gr_bd (r_X12_isIn _ _ _) (fun v36 => ?_)
          refine gr_cz ?_ ?_
          · exact r_X12_next_52
          · refine gr_bd (r_X12_isIn _ _ _) (fun v46 => ?_)
            refine gr_cz ?_ ?_
            · refine gr_bd (gr_ob 69 (by decide) (by decide) rfl (r_X12_layBest _ _ _ _)) (fun v62 => ?_)
              refine gr_cb ?_ ?_
              · refine gr_cb ?_ ?_
                · refine gr_cl ?_ ?_
                  · exact gr_ret _
                  · exact gr_ret _
                · refine gr_gf 69 (by decide) (by decide) rfl (by decide) rfl (fun v88 => ?_)
                  refine gr_ck (fun _ => ?_)
                  exact gr_ret _
              · refine gr_gf 69 (by decide) (by decide) rfl (by decide) rfl (fun v74 => ?_)
                refine gr_ck (fun _ => ?_)
                exact gr_ret _
            · exact r_X12_next_52
def gB_J7_fill_5_o45 (x1 : Int) (x3 : Int) (rec_5 : Int → gM Int) (x2 : Int) : gM Int :=
  gcb (x2) (x3) ((x3 ≤ x2)) (gret (0)) (gas 45 100 (x2) (x1) (glet ((x2 + 1)) (fun x2_14 => rec_5 x2_14)))
set_option maxRecDepth 20000 in
theorem rB_J7_fill_5_o45 (x1 : Int) (x3 : Int) (frec_5 : Int → hf_M Int) (rec_5 : Int → gM Int) (hrec_5 : ∀ s : Int, gr (frec_5 s) (rec_5 s)) (x2 : Int) : gr (B_J7_fill_53178_5 45 x1 x3 frec_5 x2) (gB_J7_fill_5_o45 x1 x3 rec_5 x2) := by
  unfold B_J7_fill_53178_5 gB_J7_fill_5_o45
  refine gr_cb ?_ ?_
  · exact gr_ret _
  · refine gr_as 45 100 (by decide) (by decide) rfl (by decide) rfl rfl ?_
    refine gr_let (fun x2_14 => ?_)
    exact hrec_5 _
def g_J7_fill_5_o45 (x1 : Int) (x2 : Int) (x3 : Int) : gM Int :=
  gfx (fun rec s => gB_J7_fill_5_o45 x1 x3 rec s) hf_N x2
set_option maxRecDepth 20000 in
theorem r_J7_fill_5_o45 (x1 : Int) (x2 : Int) (x3 : Int) : gr (f_J7_fill_53178_5 45 x1 x2 x3) (g_J7_fill_5_o45 x1 x2 x3) := by
  unfold f_J7_fill_53178_5 g_J7_fill_5_o45
  refine gr_fx (fun frec rec hrec s => ?_) _ _
  exact rB_J7_fill_5_o45 _ _ _ _ hrec _
def g_J7_fill_o45 (x1 : Int) : gM Int :=
  g_J7_fill_5_o45 x1 0 100
set_option maxRecDepth 20000 in
theorem r_J7_fill_o45 (x1 : Int) : gr (f_J7_fill_53178 45 x1) (g_J7_fill_o45 x1) := by
  unfold f_J7_fill_53178 g_J7_fill_o45
  refine gr_an 45 100 (by decide) (by decide) rfl rfl ?_
  exact r_J7_fill_5_o45 _ _ _
def g_X0_edgeOf_215 (x5 : Int) : gM Int :=
  gput (-3903) ((-1)) (gret (x5))
set_option maxRecDepth 20000 in
theorem r_X0_edgeOf_215 (x5 : Int) : gr (f_X0_edgeOf_215 39 x5) (g_X0_edgeOf_215 x5) := by
  unfold f_X0_edgeOf_215 g_X0_edgeOf_215
  refine gr_pf 39 (by decide) (by decide) rfl (by decide) (by decide) rfl rfl ?_
  exact gr_ret _
