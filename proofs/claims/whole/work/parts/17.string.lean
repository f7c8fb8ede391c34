/-! String.length and String.charAt over Token's texts -/
def hf_none : hf_M Int := fun _ => none
def M_J3_checkIndex_8e157 : hf_D := (yJ3_checkIndex_8e157, cJ3_checkIndex_8e157, 3, some .int, 0, 0)
def f_J3_checkIndex_8e157 (x0 x1 : Int) : hf_M Int := hf_cz x0 (x0 < 0) hf_none (hf_cb x0 x1 (x0 < x1) (hf_ret x0) hf_none)
theorem cal_J3_checkIndex_8e157 : hf_csx M_J3_checkIndex_8e157 3 := ⟨⟨ii_J3, kc_J3_checkIndex_8e157, by decide, by decide, by decide +kernel⟩, ks_J3_checkIndex_8e157⟩
theorem c_J3_checkIndex_8e157 (x0 x1 x2 : Int) : hf_Met M_J3_checkIndex_8e157 [0, 0, 2] [x0, x1, x2] (f_J3_checkIndex_8e157 x0 x1) := by
  refine hf_met rfl (by decide) (by decide) (by decide) ?_
  show hf_J M_J3_checkIndex_8e157 0 [(0, 0, x0), (1, 0, x1), (2, 2, x2)] [] _
  refine hf_ild_n (pc := 0) 0 rfl rfl dJ3_checkIndex_8e157_0 ?_
  refine hf_if_lt (pc := 1) 9 dJ3_checkIndex_8e157_1 rfl ?_ ?_
  · exact hf_no (fun _ => rfl)
  · refine hf_ild_n (pc := 4) 0 rfl rfl dJ3_checkIndex_8e157_4 ?_
    refine hf_ild_n (pc := 5) 1 rfl rfl dJ3_checkIndex_8e157_5 ?_
    refine hf_icmp_lt (pc := 6) 16 dJ3_checkIndex_8e157_6 rfl ?_ ?_
    · refine hf_ild_n (pc := 16) 0 rfl rfl dJ3_checkIndex_8e157_16 ?_
      exact hf_Jret (pc := 17) dJ3_checkIndex_8e157_17 (fun _ => rfl)
    · exact hf_no (fun _ => rfl)
def M_J0_checkIndex_df160 : hf_D := (yJ0_checkIndex_df160, cJ0_checkIndex_df160, 2, none, 1, 22)
def f_J0_checkIndex_df160 (x0 x1 : Int) : hf_M Int := hf_bd (f_J3_checkIndex_8e157 x0 x1) (fun _ => hf_ret 0)
theorem cal_J0_checkIndex_df160 : hf_csx M_J0_checkIndex_df160 2 := ⟨⟨ii_J0, kc_J0_checkIndex_df160, by decide, by decide, by decide +kernel⟩, ks_J0_checkIndex_df160⟩
theorem c_J0_checkIndex_df160 (x0 x1 : Int) : hf_Met M_J0_checkIndex_df160 [0, 0] [x0, x1] (f_J0_checkIndex_df160 x0 x1) := by
  refine hf_met rfl (by decide) (by decide) (by decide) ?_
  show hf_J M_J0_checkIndex_df160 0 [(0, 0, x0), (1, 0, x1)] [] _
  refine hf_ild_n (pc := 0) 0 rfl rfl dJ0_checkIndex_df160_0 ?_
  refine hf_ild_n (pc := 1) 1 rfl rfl dJ0_checkIndex_df160_1 ?_
  refine hf_gfm (pc := 2) fs_J0_1053 dJ0_checkIndex_df160_2 (fun v2 => ?_)
  refine hf_cS (pc := 5) (N := M_J3_checkIndex_8e157) (ts := [0, 0, 2]) (vs := [x0, x1, v2]) (st := []) (fun r => [(0, r)]) (c_J3_checkIndex_8e157 x0 x1 v2) cal_J3_checkIndex_8e157 ml_J0_1059 ⟨hf_le rfl, hf_le rfl⟩ (hf_le rfl) ⟨rfl, rfl⟩ rfl dJ0_checkIndex_df160_5 (fun _ => rfl) (fun v5 => ?_)
  refine hf_pop (pc := 8) (by decide) dJ0_checkIndex_df160_8 ?_
  exact hf_Jret (pc := 9) dJ0_checkIndex_df160_9 (fun _ => rfl)
def M_J1_charAt_3b067 : hf_D := (yJ1_charAt_3b067, cJ1_charAt_3b067, 2, some .char, 2, 43)
theorem cal_J1_charAt_3b067 : hf_csx M_J1_charAt_3b067 2 := ⟨⟨ii_J1, kc_J1_charAt_3b067, by decide, by decide, by decide +kernel⟩, ks_J1_charAt_3b067⟩
def hf_sch (i : Nat) (j : Int) : Int := ((hf_sbyt.getD i []).getD j.toNat 0).toInt
theorem hf_sch_ok : ∀ i, i < 16 → ∀ j, j < 6 → hf_and ((hf_sbyt.getD i []).getD j 0).toInt 255 = ((hf_sbyt.getD i []).getD j 0).toInt ∧ 0 ≤ ((hf_sbyt.getD i []).getD j 0).toInt ∧ ((hf_sbyt.getD i []).getD j 0).toInt ≤ 127 := by decide +kernel
def f_J1_charAt (i : Nat) (x1 : Int) : hf_M Int := hf_bd (f_J0_checkIndex_df160 x1 (hf_slen.getD i 0 : Nat)) (fun _ => hf_ck (0 ≤ x1 ∧ x1 < (hf_slen.getD i 0 : Nat)) (hf_ret (hf_sch i x1)))
theorem c_J1_charAt (i : Nat) (hi : i < 16) (x1 : Int) : hf_Met M_J1_charAt_3b067 [2, 0] [-(2 * (i : Int) + 3), x1] (f_J1_charAt i x1) := by
  refine hf_met rfl (by decide) (by decide) (by decide) ?_
  show hf_J M_J1_charAt_3b067 0 [(0, 2, -(2 * (i : Int) + 3)), (1, 0, x1)] [] _
  refine hf_ild_n (pc := 0) 1 rfl rfl dJ1_charAt_3b067_0 ?_
  refine hf_ald_n (pc := 1) 0 rfl rfl dJ1_charAt_3b067_1 ?_
  refine hf_sal (pc := 2) hi dJ1_charAt_3b067_2 ?_
  refine hf_cS (pc := 3) (N := M_J0_checkIndex_df160) (ts := [0, 0]) (vs := [x1, ((hf_slen.getD i 0 : Nat) : Int)]) (st := []) (fun r => []) (c_J0_checkIndex_df160 x1 _) cal_J0_checkIndex_df160 ml_J1_9 ⟨hf_le rfl, hf_le rfl⟩ (hf_le rfl) ⟨rfl, rfl⟩ rfl dJ1_charAt_3b067_3 (fun _ => rfl) (fun _ => ?_)
  refine hf_Jck (fun hq => ?_)
  have hlt := hf_slen_lt i hi
  obtain ⟨g1, g2, g3⟩ := hf_sch_ok i hi x1.toNat (by omega)
  refine hf_ald_n (pc := 6) 0 rfl rfl dJ1_charAt_3b067_6 ?_
  refine hf_ild_n (pc := 7) 1 rfl rfl dJ1_charAt_3b067_7 ?_
  refine hf_sbl (pc := 8) hi hq dJ1_charAt_3b067_8 ?_
  refine hf_sipush (pc := 9) dJ1_charAt_3b067_9 (by decide) ?_
  refine hf_iand (pc := 12) dJ1_charAt_3b067_12 ?_
  rw [g1]
  refine hf_i2c (pc := 13) ⟨g2, by omega⟩ dJ1_charAt_3b067_13 ?_
  exact hf_Jret (pc := 14) (r := hf_sch i x1) ⟨dJ1_charAt_3b067_14, g2, by unfold hf_sch; omega⟩ (fun _ => rfl)
def M_J0_coder_7d493 : hf_D := (yJ0_coder_7d493, cJ0_coder_7d493, 1, some .byte, 0, 0)
theorem cal_J0_coder_7d493 : hf_cvs M_J0_coder_7d493 0 := ⟨⟨ii_J0, kc_J0_coder_7d493, by decide, by decide, by decide +kernel⟩, ki_J0_coder_7d493, kv_J0_coder_7d493, rfl⟩
theorem c_J0_coder (i : Nat) (hi : i < 16) : hf_Met M_J0_coder_7d493 [2] [-(2 * (i : Int) + 2)] (hf_ret 0) := by
  refine hf_met rfl (by decide) (by decide) (by decide) ?_
  show hf_J M_J0_coder_7d493 0 [(0, 2, -(2 * (i : Int) + 2))] [] _
  refine hf_gcs (pc := 0) fs_J0_38 dJ0_coder_7d493_0 ?_
  refine hf_Jeq (k1 := hf_cz 1 ((1 : Int) = 0) hf_none (hf_ret 0)) (fun _ => rfl) ?_
  refine hf_if_eq (pc := 3) 13 dJ0_coder_7d493_3 rfl ?_ ?_
  · exact hf_no (fun _ => rfl)
  · refine hf_ald_n (pc := 6) 0 rfl rfl dJ0_coder_7d493_6 ?_
    refine hf_sgc (pc := 7) hi fs_J0_15 dJ0_coder_7d493_7 ?_
    refine hf_goto (pc := 10) 14 dJ0_coder_7d493_10 rfl ?_
    exact hf_Jret (pc := 14) (r := 0) ⟨dJ0_coder_7d493_14, by decide, by decide⟩ (fun _ => rfl)
def M_J0_isLatin1_aae02 : hf_D := (yJ0_isLatin1_aae02, cJ0_isLatin1_aae02, 1, some .boolean, 0, 0)
theorem cal_J0_isLatin1_aae02 : hf_cvs M_J0_isLatin1_aae02 0 := ⟨⟨ii_J0, kc_J0_isLatin1_aae02, by decide, by decide, by decide +kernel⟩, ki_J0_isLatin1_aae02, kv_J0_isLatin1_aae02, rfl⟩
theorem c_J0_isLatin1 (i : Nat) (hi : i < 16) : hf_Met M_J0_isLatin1_aae02 [2] [-(2 * (i : Int) + 2)] (hf_ret 1) := by
  refine hf_met rfl (by decide) (by decide) (by decide) ?_
  show hf_J M_J0_isLatin1_aae02 0 [(0, 2, -(2 * (i : Int) + 2))] [] _
  refine hf_gcs (pc := 0) fs_J0_38 dJ0_isLatin1_aae02_0 ?_
  refine hf_Jeq (k1 := hf_cz 1 ((1 : Int) = 0) hf_none (hf_cz 0 (¬ (0 : Int) = 0) hf_none (hf_ret 1))) (fun _ => rfl) ?_
  refine hf_if_eq (pc := 3) 17 dJ0_isLatin1_aae02_3 rfl ?_ ?_
  · exact hf_no (fun _ => rfl)
  · refine hf_ald_n (pc := 6) 0 rfl rfl dJ0_isLatin1_aae02_6 ?_
    refine hf_sgc (pc := 7) hi fs_J0_15 dJ0_isLatin1_aae02_7 ?_
    refine hf_if_ne (pc := 10) 17 dJ0_isLatin1_aae02_10 rfl ?_ ?_
    · exact hf_no (fun _ => rfl)
    · refine hf_iconst (pc := 13) dJ0_isLatin1_aae02_13 ?_
      refine hf_goto (pc := 14) 18 dJ0_isLatin1_aae02_14 rfl ?_
      exact hf_Jret (pc := 18) (r := 1) ⟨dJ0_isLatin1_aae02_18, Or.inr rfl⟩ (fun _ => rfl)
def M_J0_length_8abf5 : hf_D := (yJ0_length_8abf5, cJ0_length_8abf5, 1, some .int, 1, 20)
theorem cal_J0_length_8abf5 : hf_cvs M_J0_length_8abf5 0 := ⟨⟨ii_J0, kc_J0_length_8abf5, by decide, by decide, by decide +kernel⟩, ki_J0_length_8abf5, kv_J0_length_8abf5, rfl⟩
theorem hf_shr0 : ∀ i, i < 16 → hf_shr ((hf_slen.getD i 0 : Nat) : Int) 0 = ((hf_slen.getD i 0 : Nat) : Int) := by decide +kernel
theorem c_J0_length (i : Nat) (hi : i < 16) : hf_Met M_J0_length_8abf5 [2] [-(2 * (i : Int) + 2)] (hf_ret ((hf_slen.getD i 0 : Nat) : Int)) := by
  refine hf_met rfl (by decide) (by decide) (by decide) ?_
  show hf_J M_J0_length_8abf5 0 [(0, 2, -(2 * (i : Int) + 2))] [] _
  refine hf_ald_n (pc := 0) 0 rfl rfl dJ0_length_8abf5_0 ?_
  refine hf_sgv (pc := 1) hi fs_J0_9 dJ0_length_8abf5_1 ?_
  refine hf_sal (pc := 4) hi dJ0_length_8abf5_4 ?_
  refine hf_ald_n (pc := 5) 0 rfl rfl dJ0_length_8abf5_5 ?_
  have e : ∀ σ, hf_bd (hf_ret (0 : Int)) (fun v => hf_ck (v = 0) (hf_ret (hf_shr ((hf_slen.getD i 0 : Nat) : Int) v))) σ = hf_ret ((hf_slen.getD i 0 : Nat) : Int) σ := fun σ => by
    show some (hf_shr ((hf_slen.getD i 0 : Nat) : Int) 0, σ) = _
    rw [hf_shr0 i hi]; rfl
  refine hf_Jeq e ?_
  refine hf_cVs (pc := 6) (i := i) hi rfl (N := M_J0_coder_7d493) (ts := []) (vs := []) (st := [(0, ((hf_slen.getD i 0 : Nat) : Int))]) (fun r => [(0, r), (0, ((hf_slen.getD i 0 : Nat) : Int))]) (c_J0_coder i hi) cal_J0_coder_7d493 ml_J0_335 ⟨hf_le rfl, hf_le rfl⟩ (hf_le rfl) ⟨rfl, rfl⟩ rfl dJ0_length_8abf5_6 (fun _ => rfl) (fun v => ?_)
  refine hf_Jck (fun _ => ?_)
  refine hf_ishr (pc := 9) dJ0_length_8abf5_9 ?_
  exact hf_Jret (pc := 10) dJ0_length_8abf5_10 (fun _ => rfl)
def M_J0_charAt_5068e : hf_D := (yJ0_charAt_5068e, cJ0_charAt_5068e, 2, some .char, 3, 64)
theorem cal_J0_charAt_5068e : hf_cvs M_J0_charAt_5068e 1 := ⟨⟨ii_J0, kc_J0_charAt_5068e, by decide, by decide, by decide +kernel⟩, ki_J0_charAt_5068e, kv_J0_charAt_5068e, rfl⟩
theorem c_J0_charAt (i : Nat) (hi : i < 16) (x1 : Int) : hf_Met M_J0_charAt_5068e [2, 0] [-(2 * (i : Int) + 2), x1] (hf_bd (f_J1_charAt i x1) (fun v => hf_ck (0 ≤ v ∧ v ≤ 65535) (hf_ret v))) := by
  refine hf_met rfl (by decide) (by decide) (by decide) ?_
  show hf_J M_J0_charAt_5068e 0 [(0, 2, -(2 * (i : Int) + 2)), (1, 0, x1)] [] _
  refine hf_ald_n (pc := 0) 0 rfl rfl dJ0_charAt_5068e_0 ?_
  refine hf_Jeq (k1 := hf_bd (hf_ret (1 : Int)) (fun v => hf_cz v (v = 0) hf_none (hf_bd (f_J1_charAt i x1) (fun v => hf_ck (0 ≤ v ∧ v ≤ 65535) (hf_ret v))))) (fun _ => rfl) ?_
  refine hf_cVs (pc := 1) (i := i) hi rfl (N := M_J0_isLatin1_aae02) (ts := []) (vs := []) (st := []) (fun r => [(0, r)]) (c_J0_isLatin1 i hi) cal_J0_isLatin1_aae02 ml_J0_492 ⟨hf_le rfl, hf_le rfl⟩ (hf_le rfl) ⟨rfl, rfl⟩ rfl dJ0_charAt_5068e_1 (fun _ => rfl) (fun v => ?_)
  refine hf_if_eq (pc := 4) 16 dJ0_charAt_5068e_4 rfl ?_ ?_
  · exact hf_no (fun _ => rfl)
  · refine hf_ald_n (pc := 7) 0 rfl rfl dJ0_charAt_5068e_7 ?_
    refine hf_sgv (pc := 8) hi fs_J0_9 dJ0_charAt_5068e_8 ?_
    refine hf_ild_n (pc := 11) 1 rfl rfl dJ0_charAt_5068e_11 ?_
    refine hf_cS (pc := 12) (N := M_J1_charAt_3b067) (ts := [2, 0]) (vs := [-(2 * (i : Int) + 3), x1]) (st := []) (fun r => [(0, r)]) (c_J1_charAt i hi x1) cal_J1_charAt_3b067 ml_J0_495 ⟨hf_le rfl, hf_le rfl⟩ (hf_le rfl) ⟨rfl, rfl⟩ rfl dJ0_charAt_5068e_12 (fun _ => rfl) (fun v => ?_)
    refine hf_Jck (fun hq => ?_)
    exact hf_Jret (pc := 15) ⟨dJ0_charAt_5068e_15, hq⟩ (fun _ => rfl)
/-- which text a reference is -/
def hf_str (o : Int) : Option Nat := if o ≤ -2 ∧ -32 ≤ o ∧ (-o) % 2 = 0 then some ((-o - 2) / 2).toNat else none
theorem hf_str_some {o : Int} {i : Nat} (h : hf_str o = some i) : i < 16 ∧ o = -(2 * (i : Int) + 2) := by
  unfold hf_str at h
  by_cases hc : o ≤ -2 ∧ -32 ≤ o ∧ (-o) % 2 = 0
  · rw [if_pos hc] at h
    have := Option.some.inj h
    omega
  · rw [if_neg hc] at h; cases h
def f_J0_length_8abf5 (o : Int) : hf_M Int := fun σ => (hf_str o).bind fun i => some (((hf_slen.getD i 0 : Nat) : Int), σ)
def f_J0_charAt_5068e (o j : Int) : hf_M Int := fun σ => (hf_str o).bind fun i => if hf_inI j ∧ 0 ≤ j ∧ j < (hf_slen.getD i 0 : Nat) then some (hf_sch i j, σ) else none
theorem hm_J0_length_8abf5 (o : Int) : hf_str o = none → ∀ σ, f_J0_length_8abf5 o σ = none := fun h σ => by unfold f_J0_length_8abf5; rw [h]; rfl
theorem hm_J0_charAt_5068e (o j : Int) : hf_str o = none → ∀ σ, f_J0_charAt_5068e o j σ = none := fun h σ => by unfold f_J0_charAt_5068e; rw [h]; rfl
theorem hf_Met.eq {M : hf_D} {ts : List Nat} {vs : List Int} {k1 k2 : hf_M Int} (h : ∀ σ z, k2 σ = some z → k1 σ = some z) (hM : hf_Met M ts vs k1) : hf_Met M ts vs k2 := fun l hlt G σ σ' r hk => hM l hlt G σ σ' r (h σ _ hk)
theorem c_J0_length_8abf5 (o : Int) : hf_Met M_J0_length_8abf5 [2] [o] (f_J0_length_8abf5 o) := by
  cases h : hf_str o with
  | none => intro l hlt G σ σ' r hk; rw [hm_J0_length_8abf5 o h] at hk; cases hk
  | some i =>
    obtain ⟨hi, ho⟩ := hf_str_some h
    have hM := c_J0_length i hi
    rw [← ho] at hM
    exact hM.eq (fun σ z hz => by unfold f_J0_length_8abf5 at hz; rw [h] at hz; exact hz)
theorem c_J0_charAt_5068e (o j : Int) : hf_Met M_J0_charAt_5068e [2, 0] [o, j] (f_J0_charAt_5068e o j) := by
  cases h : hf_str o with
  | none => intro l hlt G σ σ' r hk; rw [hm_J0_charAt_5068e o j h] at hk; cases hk
  | some i =>
    obtain ⟨hi, ho⟩ := hf_str_some h
    have hM := c_J0_charAt i hi j
    rw [← ho] at hM
    refine hM.eq (fun σ z hz => ?_)
    unfold f_J0_charAt_5068e at hz
    rw [h] at hz
    have hz2 : (if hf_inI j ∧ 0 ≤ j ∧ j < (hf_slen.getD i 0 : Nat) then some (hf_sch i j, σ) else none) = some z := hz
    by_cases hq : hf_inI j ∧ 0 ≤ j ∧ j < (hf_slen.getD i 0 : Nat)
    · rw [if_pos hq] at hz2
      have hlt := hf_slen_lt i hi
      obtain ⟨g1, g2, g3⟩ := hf_sch_ok i hi j.toNat (by omega)
      have hr : hf_inI ((hf_slen.getD i 0 : Nat) : Int) := ⟨by omega, by omega⟩
      simp only [hf_bd, f_J1_charAt, f_J0_checkIndex_df160, f_J3_checkIndex_8e157, hf_cz, hf_cb, hf_ck, hf_ret, if_pos hq.1, if_neg (show ¬ j < 0 by omega), if_pos (show hf_inI j ∧ hf_inI ((hf_slen.getD i 0 : Nat) : Int) from ⟨hq.1, hr⟩), if_pos hq.2.2, Option.bind_some, if_pos hq.2]
      rw [if_pos (show 0 ≤ hf_sch i j ∧ hf_sch i j ≤ 65535 by unfold hf_sch; omega)]
      exact hz2
    · rw [if_neg hq] at hz2; cases hz2
theorem hf_cVS {M N : hf_D} {pc : Nat} {lv : List (Nat × Nat × Int)} {st stk : List (Nat × Int)} {ts : List Nat} {vs : List Int} {mm : hf_M Int} {f : Int → hf_M Int} {ix n : Nat} {o : Int} (hmm : hf_str o = none → ∀ σ, mm σ = none) (stn : Int → List (Nat × Int)) (hM : hf_Met N (2 :: ts) (o :: vs) mm) (hc : hf_cvs N n) (hl : Cond.methodLink M.1.cls ix N.1 ∈ hf_all) (hR : hf_rmok M N) (hw : hf_stw st ≤ 8) (hn : ts.length = n ∧ vs.length = n) (hs : stk = (ts.zip vs).reverse ++ (2, o) :: st) (hdg : decode M.2.1 pc = .ok (.invokevirtual ix, 3)) (hst : ∀ r, hf_rp N.2.2.2.1 r ++ st = stn r) (h0 : ∀ r, hf_J M (pc + 3) lv (stn r) (f r)) : hf_J M pc lv stk (hf_bd mm f) := by
  cases h : hf_str o with
  | none => exact hf_no (fun σ => by unfold hf_bd; rw [hmm h]; rfl)
  | some i =>
    obtain ⟨hi, ho⟩ := hf_str_some h
    exact hf_cVs hi ho stn hM hc hl hR hw hn hs hdg hst h0
