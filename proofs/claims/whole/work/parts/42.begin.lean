/-! THE CONSTRUCTORS DO NOT SEE THE SCRIPT: printed by begin.py -/
theorem o_B_J7_fill_53178_5 (x0 x1 x3 : Int) (rec_5 : Int → hf_M Int) (x2 : Int) (hrec_5 : ∀ s, ho (rec_5 s)) : ho (B_J7_fill_53178_5 x0 x1 x3 rec_5 x2) := by
  unfold B_J7_fill_53178_5
  repeat (first | with_reducible exact ho_ret | with_reducible exact ho_pf | with_reducible exact ho_as | with_reducible exact ho_gf | with_reducible exact ho_an | with_reducible exact ho_na | with_reducible exact ho_nw | with_reducible refine ho_ob ?_ | with_reducible refine ho_ck ?_ | with_reducible refine ho_cb ?_ ?_ | with_reducible refine ho_bd ?_ (fun _ => ?_) | with_reducible exact hrec_5 _)
theorem o_J7_fill_53178_5 (x0 x1 x2 x3 : Int) : ho (f_J7_fill_53178_5 x0 x1 x2 x3) := by
  unfold f_J7_fill_53178_5
  exact ho_fx (fun rec hrec s => o_B_J7_fill_53178_5 _ _ _ _ _ hrec) _ _
theorem o_J7_fill_53178 (x0 x1 : Int) : ho (f_J7_fill_53178 x0 x1) := by
  unfold f_J7_fill_53178
  repeat (first | with_reducible exact ho_ret | with_reducible exact ho_pf | with_reducible exact ho_as | with_reducible exact ho_gf | with_reducible exact ho_an | with_reducible exact ho_na | with_reducible exact ho_nw | with_reducible refine ho_ob ?_ | with_reducible refine ho_ck ?_ | with_reducible refine ho_cb ?_ ?_ | with_reducible refine ho_bd ?_ (fun _ => ?_) | with_reducible exact o_J7_fill_53178_5 _ _ _ _)
theorem o_X8_init (x0 : Int) : ho (f_X8_init x0) := by
  unfold f_X8_init
  repeat (first | with_reducible exact ho_ret | with_reducible exact ho_pf | with_reducible exact ho_as | with_reducible exact ho_gf | with_reducible exact ho_an | with_reducible exact ho_na | with_reducible exact ho_nw | with_reducible refine ho_ob ?_ | with_reducible refine ho_ck ?_ | with_reducible refine ho_cb ?_ ?_ | with_reducible refine ho_bd ?_ (fun _ => ?_) | with_reducible exact o_J7_fill_53178 _ _)
theorem o_X0_init (x0 : Int) : ho (f_X0_init x0) := by
  unfold f_X0_init
  repeat (first | with_reducible exact ho_ret | with_reducible exact ho_pf | with_reducible exact ho_as | with_reducible exact ho_gf | with_reducible exact ho_an | with_reducible exact ho_na | with_reducible exact ho_nw | with_reducible refine ho_ob ?_ | with_reducible refine ho_ck ?_ | with_reducible refine ho_cb ?_ ?_ | with_reducible refine ho_bd ?_ (fun _ => ?_))
theorem o_X4_init (x0 : Int) : ho (f_X4_init x0) := by
  unfold f_X4_init
  repeat (first | with_reducible exact ho_ret | with_reducible exact ho_pf | with_reducible exact ho_as | with_reducible exact ho_gf | with_reducible exact ho_an | with_reducible exact ho_na | with_reducible exact ho_nw | with_reducible refine ho_ob ?_ | with_reducible refine ho_ck ?_ | with_reducible refine ho_cb ?_ ?_ | with_reducible refine ho_bd ?_ (fun _ => ?_))
theorem o_X1_init (x0 x1 : Int) : ho (f_X1_init x0 x1) := by
  unfold f_X1_init
  repeat (first | with_reducible exact ho_ret | with_reducible exact ho_pf | with_reducible exact ho_as | with_reducible exact ho_gf | with_reducible exact ho_an | with_reducible exact ho_na | with_reducible exact ho_nw | with_reducible refine ho_ob ?_ | with_reducible refine ho_ck ?_ | with_reducible refine ho_cb ?_ ?_ | with_reducible refine ho_bd ?_ (fun _ => ?_))
theorem o_X10_init (x0 : Int) : ho (f_X10_init x0) := by
  unfold f_X10_init
  repeat (first | with_reducible exact ho_ret | with_reducible exact ho_pf | with_reducible exact ho_as | with_reducible exact ho_gf | with_reducible exact ho_an | with_reducible exact ho_na | with_reducible exact ho_nw | with_reducible refine ho_ob ?_ | with_reducible refine ho_ck ?_ | with_reducible refine ho_cb ?_ ?_ | with_reducible refine ho_bd ?_ (fun _ => ?_))
theorem o_X2_init (x0 : Int) : ho (f_X2_init x0) := by
  unfold f_X2_init
  repeat (first | with_reducible exact ho_ret | with_reducible exact ho_pf | with_reducible exact ho_as | with_reducible exact ho_gf | with_reducible exact ho_an | with_reducible exact ho_na | with_reducible exact ho_nw | with_reducible refine ho_ob ?_ | with_reducible refine ho_ck ?_ | with_reducible refine ho_cb ?_ ?_ | with_reducible refine ho_bd ?_ (fun _ => ?_))
theorem o_X3_init (x0 : Int) : ho (f_X3_init x0) := by
  unfold f_X3_init
  repeat (first | with_reducible exact ho_ret | with_reducible exact ho_pf | with_reducible exact ho_as | with_reducible exact ho_gf | with_reducible exact ho_an | with_reducible exact ho_na | with_reducible exact ho_nw | with_reducible refine ho_ob ?_ | with_reducible refine ho_ck ?_ | with_reducible refine ho_cb ?_ ?_ | with_reducible refine ho_bd ?_ (fun _ => ?_))
theorem o_X9_init (x0 : Int) : ho (f_X9_init x0) := by
  unfold f_X9_init
  repeat (first | with_reducible exact ho_ret | with_reducible exact ho_pf | with_reducible exact ho_as | with_reducible exact ho_gf | with_reducible exact ho_an | with_reducible exact ho_na | with_reducible exact ho_nw | with_reducible refine ho_ob ?_ | with_reducible refine ho_ck ?_ | with_reducible refine ho_cb ?_ ?_ | with_reducible refine ho_bd ?_ (fun _ => ?_))
theorem o_X5_init (x0 : Int) : ho (f_X5_init x0) := by
  unfold f_X5_init
  repeat (first | with_reducible exact ho_ret | with_reducible exact ho_pf | with_reducible exact ho_as | with_reducible exact ho_gf | with_reducible exact ho_an | with_reducible exact ho_na | with_reducible exact ho_nw | with_reducible refine ho_ob ?_ | with_reducible refine ho_ck ?_ | with_reducible refine ho_cb ?_ ?_ | with_reducible refine ho_bd ?_ (fun _ => ?_) | with_reducible exact o_X9_init _ | with_reducible exact o_X4_init _)
theorem o_X7_init (x0 : Int) : ho (f_X7_init x0) := by
  unfold f_X7_init
  repeat (first | with_reducible exact ho_ret | with_reducible exact ho_pf | with_reducible exact ho_as | with_reducible exact ho_gf | with_reducible exact ho_an | with_reducible exact ho_na | with_reducible exact ho_nw | with_reducible refine ho_ob ?_ | with_reducible refine ho_ck ?_ | with_reducible refine ho_cb ?_ ?_ | with_reducible refine ho_bd ?_ (fun _ => ?_))
theorem o_X6_init (x0 : Int) : ho (f_X6_init x0) := by
  unfold f_X6_init
  repeat (first | with_reducible exact ho_ret | with_reducible exact ho_pf | with_reducible exact ho_as | with_reducible exact ho_gf | with_reducible exact ho_an | with_reducible exact ho_na | with_reducible exact ho_nw | with_reducible refine ho_ob ?_ | with_reducible refine ho_ck ?_ | with_reducible refine ho_cb ?_ ?_ | with_reducible refine ho_bd ?_ (fun _ => ?_) | with_reducible exact o_X1_init _ _ | with_reducible exact o_X7_init _)
theorem o_X11_init (x0 : Int) : ho (f_X11_init x0) := by
  unfold f_X11_init
  repeat (first | with_reducible exact ho_ret | with_reducible exact ho_pf | with_reducible exact ho_as | with_reducible exact ho_gf | with_reducible exact ho_an | with_reducible exact ho_na | with_reducible exact ho_nw | with_reducible refine ho_ob ?_ | with_reducible refine ho_ck ?_ | with_reducible refine ho_cb ?_ ?_ | with_reducible refine ho_bd ?_ (fun _ => ?_) | with_reducible exact o_X8_init _ | with_reducible exact o_X5_init _ | with_reducible exact o_X4_init _ | with_reducible exact o_X6_init _ | with_reducible exact o_X0_init _ | with_reducible exact o_X10_init _ | with_reducible exact o_X2_init _ | with_reducible exact o_X3_init _ | with_reducible exact o_X1_init _ _)
theorem o_B_X12_init_734 (x0 : Int) (rec_734 : Int → hf_M Int) (x1 : Int) (hrec_734 : ∀ s, ho (rec_734 s)) : ho (B_X12_init_734 x0 rec_734 x1) := by
  unfold B_X12_init_734
  repeat (first | with_reducible exact ho_ret | with_reducible exact ho_pf | with_reducible exact ho_as | with_reducible exact ho_gf | with_reducible exact ho_an | with_reducible exact ho_na | with_reducible exact ho_nw | with_reducible refine ho_ob ?_ | with_reducible refine ho_ck ?_ | with_reducible refine ho_cb ?_ ?_ | with_reducible refine ho_bd ?_ (fun _ => ?_) | with_reducible exact hrec_734 _)
theorem o_X12_init_734 (x0 x1 : Int) : ho (f_X12_init_734 x0 x1) := by
  unfold f_X12_init_734
  exact ho_fx (fun rec hrec s => o_B_X12_init_734 _ _ _ hrec) _ _
theorem o_B_X12_init_714 (x0 : Int) (rec_714 : Int → hf_M Int) (x1 : Int) (hrec_714 : ∀ s, ho (rec_714 s)) : ho (B_X12_init_714 x0 rec_714 x1) := by
  unfold B_X12_init_714
  repeat (first | with_reducible exact ho_ret | with_reducible exact ho_pf | with_reducible exact ho_as | with_reducible exact ho_gf | with_reducible exact ho_an | with_reducible exact ho_na | with_reducible exact ho_nw | with_reducible refine ho_ob ?_ | with_reducible refine ho_ck ?_ | with_reducible refine ho_cb ?_ ?_ | with_reducible refine ho_bd ?_ (fun _ => ?_) | with_reducible exact hrec_714 _ | with_reducible exact o_X12_init_734 _ _)
theorem o_X12_init_714 (x0 x1 : Int) : ho (f_X12_init_714 x0 x1) := by
  unfold f_X12_init_714
  exact ho_fx (fun rec hrec s => o_B_X12_init_714 _ _ _ hrec) _ _
theorem o_X12_init (x0 : Int) : ho (f_X12_init x0) := by
  unfold f_X12_init
  repeat (first | with_reducible exact ho_ret | with_reducible exact ho_pf | with_reducible exact ho_as | with_reducible exact ho_gf | with_reducible exact ho_an | with_reducible exact ho_na | with_reducible exact ho_nw | with_reducible refine ho_ob ?_ | with_reducible refine ho_ck ?_ | with_reducible refine ho_cb ?_ ?_ | with_reducible refine ho_bd ?_ (fun _ => ?_) | with_reducible exact o_X12_init_714 _ _)
