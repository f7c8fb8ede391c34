/-! MATH -/
theorem mx_s : Cond.static Lib.Math.max.name ∈ hf_all := ks_J9_max_7cf53
theorem mx_c : Cond.code Lib.Math.max.name Lib.Math.max.code 2 (some .int) ∈ hf_all := kc_J9_max_7cf53
theorem mi_s : Cond.static Lib.Math.min.name ∈ hf_all := ks_J9_min_7cf53
theorem mi_c : Cond.code Lib.Math.min.name Lib.Math.min.code 2 (some .int) ∈ hf_all := kc_J9_min_7cf53
theorem ma_s : Cond.static Lib.Math.abs.name ∈ hf_all := ks_J9_abs_0f7a4
theorem ma_c : Cond.code Lib.Math.abs.name Lib.Math.abs.code 1 (some .int) ∈ hf_all := kc_J9_abs_0f7a4
theorem mxl_s : Cond.static Lib.MathLoose.max_long.x ∈ hf_all := ks_J9_max_f86c9
theorem mxl_c : Cond.code Lib.MathLoose.max_long.x Lib.MathLoose.max_long.code 4 (some .long) ∈ hf_all := kc_J9_max_f86c9
theorem mal_s : Cond.static Lib.MathLoose.abs_long.x ∈ hf_all := ks_J9_abs_067f4
theorem mal_c : Cond.code Lib.MathLoose.abs_long.x Lib.MathLoose.abs_long.code 2 (some .long) ∈ hf_all := kc_J9_abs_067f4
theorem hf_0ltL {a : Int} (ha : hf_inL a) : 0 < Int64.ofInt a ↔ 0 < a := by
  rw [Int64.lt_iff_toInt_lt, hf_toIntL ha]; exact Iff.rfl
section HFM
variable {M : hf_D} {pc : Nat} {lv : List (Nat × Nat × Int)} {st : List (Nat × Int)} {f : Int → hf_M Int}
theorem hf_mmax {i : Nat} {x y : Int} (hl : Cond.methodLink M.1.cls i Lib.Math.max.name ∈ hf_all) (hR : 1 ≤ M.2.2.2.2.1 ∧ hf_stw st + 13 ≤ M.2.2.2.2.2) (hdg : decode M.2.1 pc = .ok (.invokestatic i, 3)) (h : ∀ v, hf_J M (pc + 3) lv ((0, v) :: st) (f v)) : hf_J M pc lv ((0, y) :: (0, x) :: st) (hf_ck (hf_inI x ∧ hf_inI y) (hf_bd (hf_ret (max x y)) f)) := by
  refine hf_Jck (fun hr => ?_)
  intro p l e R s m args below meth c G n0 s0 C H locs ls σ σ' r cells slots Q hP hL hlv hk hret
  have w := fun c1 c2 => h (max x y) p l e R s m args below meth c G n0 s0 C H locs ls σ σ' r c1 c2 Q hP hL hlv hk hret
  obtain ⟨hx, hb, hml, hown, hts, -, -, -, ⟨hRf, hRl, hRc, hRs⟩, hsz, hs0, hK⟩ := C
  refine hf_tight hsz hs0 hP (fun t1 t2 => ?_)
  refine va_mmax hx hb (hml.trans hlv.1.symm) hown (hts _ hl) (hts _ mx_s) (hts _ ii_J9) (hts _ mx_c) (by rw [hRf]; exact hR.1) (by rw [hf_stw_eq G st, hRl]; exact hR.2) (by rw [hRc]; have := hP.2.2.2.1; omega) (by rw [hRs]; have := hP.2.2.2.2.1; omega) hdg ?_
  have e1 : (if Int32.ofInt x < Int32.ofInt y then Int32.ofInt y else Int32.ofInt x) = Int32.ofInt (max x y) := by
    by_cases hq : x < y
    · rw [if_pos ((hf_ltI hr.1 hr.2).mpr hq), show max x y = y by omega]
    · rw [if_neg (fun z => hq ((hf_ltI hr.1 hr.2).mp z)), show max x y = x by omega]
  rw [e1]; exact w _ _
theorem hf_mmin {i : Nat} {x y : Int} (hl : Cond.methodLink M.1.cls i Lib.Math.min.name ∈ hf_all) (hR : 1 ≤ M.2.2.2.2.1 ∧ hf_stw st + 13 ≤ M.2.2.2.2.2) (hdg : decode M.2.1 pc = .ok (.invokestatic i, 3)) (h : ∀ v, hf_J M (pc + 3) lv ((0, v) :: st) (f v)) : hf_J M pc lv ((0, y) :: (0, x) :: st) (hf_ck (hf_inI x ∧ hf_inI y) (hf_bd (hf_ret (min x y)) f)) := by
  refine hf_Jck (fun hr => ?_)
  intro p l e R s m args below meth c G n0 s0 C H locs ls σ σ' r cells slots Q hP hL hlv hk hret
  have w := fun c1 c2 => h (min x y) p l e R s m args below meth c G n0 s0 C H locs ls σ σ' r c1 c2 Q hP hL hlv hk hret
  obtain ⟨hx, hb, hml, hown, hts, -, -, -, ⟨hRf, hRl, hRc, hRs⟩, hsz, hs0, hK⟩ := C
  refine hf_tight hsz hs0 hP (fun t1 t2 => ?_)
  refine va_mmin hx hb (hml.trans hlv.1.symm) hown (hts _ hl) (hts _ mi_s) (hts _ ii_J9) (hts _ mi_c) (by rw [hRf]; exact hR.1) (by rw [hf_stw_eq G st, hRl]; exact hR.2) (by rw [hRc]; have := hP.2.2.2.1; omega) (by rw [hRs]; have := hP.2.2.2.2.1; omega) hdg ?_
  have e1 : (if Int32.ofInt y < Int32.ofInt x then Int32.ofInt y else Int32.ofInt x) = Int32.ofInt (min x y) := by
    by_cases hq : y < x
    · rw [if_pos ((hf_ltI hr.2 hr.1).mpr hq), show min x y = y by omega]
    · rw [if_neg (fun z => hq ((hf_ltI hr.2 hr.1).mp z)), show min x y = x by omega]
  rw [e1]; exact w _ _
theorem hf_mabs {i : Nat} {x : Int} (hl : Cond.methodLink M.1.cls i Lib.Math.abs.name ∈ hf_all) (hR : 1 ≤ M.2.2.2.2.1 ∧ hf_stw st + 13 ≤ M.2.2.2.2.2) (hdg : decode M.2.1 pc = .ok (.invokestatic i, 3)) (h : ∀ v, hf_J M (pc + 3) lv ((0, v) :: st) (f v)) : hf_J M pc lv ((0, x) :: st) (hf_ck (hf_inI x) (hf_bd (hf_ret (if 0 ≤ x then x else -x)) f)) := by
  refine hf_Jck (fun hr => ?_)
  intro p l e R s m args below meth c G n0 s0 C H locs ls σ σ' r cells slots Q hP hL hlv hk hret
  have w := fun c1 c2 => h (if 0 ≤ x then x else -x) p l e R s m args below meth c G n0 s0 C H locs ls σ σ' r c1 c2 Q hP hL hlv hk hret
  obtain ⟨hx, hb, hml, hown, hts, -, -, -, ⟨hRf, hRl, hRc, hRs⟩, hsz, hs0, hK⟩ := C
  refine hf_tight hsz hs0 hP (fun t1 t2 => ?_)
  refine va_mabs hx hb (hml.trans hlv.1.symm) hown (hts _ hl) (hts _ ma_s) (hts _ ii_J9) (hts _ ma_c) (by rw [hRf]; exact hR.1) (by rw [hf_stw_eq G st, hRl]; exact hR.2) (by rw [hRc]; have := hP.2.2.2.1; omega) (by rw [hRs]; have := hP.2.2.2.2.1; omega) hdg ?_
  have e1 : (if 0 ≤ Int32.ofInt x then Int32.ofInt x else 0 - Int32.ofInt x) = Int32.ofInt (if 0 ≤ x then x else -x) := by
    by_cases hq : 0 ≤ x
    · rw [if_pos ((hf_0le hr).mpr hq), if_pos hq]
    · rw [if_neg (fun z => hq ((hf_0le hr).mp z)), if_neg hq, show -x = 0 - x by omega, Int32.ofInt_sub]; rfl
  rw [e1]; exact w _ _
theorem hf_mmaxl {i : Nat} {x y : Int} (hl : Cond.methodLink M.1.cls i Lib.MathLoose.max_long.x ∈ hf_all) (hR : 1 ≤ M.2.2.2.2.1 ∧ hf_stw st + 15 ≤ M.2.2.2.2.2) (hdg : decode M.2.1 pc = .ok (.invokestatic i, 3)) (h : ∀ v, hf_J M (pc + 3) lv ((1, v) :: st) (f v)) : hf_J M pc lv ((1, y) :: (1, x) :: st) (hf_ck (hf_inL x ∧ hf_inL y) (hf_bd (hf_ret (max x y)) f)) := by
  refine hf_Jck (fun hr => ?_)
  intro p l e R s m args below meth c G n0 s0 C H locs ls σ σ' r cells slots Q hP hL hlv hk hret
  have w := fun c1 c2 => h (max x y) p l e R s m args below meth c G n0 s0 C H locs ls σ σ' r c1 c2 Q hP hL hlv hk hret
  obtain ⟨hx, hb, hml, hown, hts, -, -, -, ⟨hRf, hRl, hRc, hRs⟩, hsz, hs0, hK⟩ := C
  refine hf_tight hsz hs0 hP (fun t1 t2 => ?_)
  refine va_mmax_long hx hb (hml.trans hlv.1.symm) hown (hts _ hl) (hts _ mxl_s) (hts _ ii_J9) (hts _ mxl_c) (by rw [hRf]; exact hR.1) (by rw [hf_stw_eq G st, hRl]; exact hR.2) (by rw [hRc]; have := hP.2.2.2.1; omega) (by rw [hRs]; have := hP.2.2.2.2.1; omega) hdg ?_
  have e0 : Int64.ofInt y < Int64.ofInt x ↔ y < x := by rw [Int64.lt_iff_toInt_lt, hf_toIntL hr.1, hf_toIntL hr.2]
  have e1 : (if Int64.ofInt y < Int64.ofInt x then Int64.ofInt x else Int64.ofInt y) = Int64.ofInt (max x y) := by
    by_cases hq : y < x
    · rw [if_pos (e0.mpr hq), show max x y = x by omega]
    · rw [if_neg (fun z => hq (e0.mp z)), show max x y = y by omega]
  rw [e1]; exact w _ _
theorem hf_mabsl {i : Nat} {x : Int} (hl : Cond.methodLink M.1.cls i Lib.MathLoose.abs_long.x ∈ hf_all) (hR : 1 ≤ M.2.2.2.2.1 ∧ hf_stw st + 13 ≤ M.2.2.2.2.2) (hdg : decode M.2.1 pc = .ok (.invokestatic i, 3)) (h : ∀ v, hf_J M (pc + 3) lv ((1, v) :: st) (f v)) : hf_J M pc lv ((1, x) :: st) (hf_ck (hf_inL x) (hf_bd (hf_ret (if 0 < x then x else -x)) f)) := by
  refine hf_Jck (fun hr => ?_)
  intro p l e R s m args below meth c G n0 s0 C H locs ls σ σ' r cells slots Q hP hL hlv hk hret
  have w := fun c1 c2 => h (if 0 < x then x else -x) p l e R s m args below meth c G n0 s0 C H locs ls σ σ' r c1 c2 Q hP hL hlv hk hret
  obtain ⟨hx, hb, hml, hown, hts, -, -, -, ⟨hRf, hRl, hRc, hRs⟩, hsz, hs0, hK⟩ := C
  refine hf_tight hsz hs0 hP (fun t1 t2 => ?_)
  refine va_mabs_long hx hb (hml.trans hlv.1.symm) hown (hts _ hl) (hts _ mal_s) (hts _ ii_J9) (hts _ mal_c) (by rw [hRf]; exact hR.1) (by rw [hf_stw_eq G st, hRl]; exact hR.2) (by rw [hRc]; have := hP.2.2.2.1; omega) (by rw [hRs]; have := hP.2.2.2.2.1; omega) hdg ?_
  have e1 : (if 0 < Int64.ofInt x then Int64.ofInt x else -Int64.ofInt x) = Int64.ofInt (if 0 < x then x else -x) := by
    by_cases hq : 0 < x
    · rw [if_pos ((hf_0ltL hr).mpr hq), if_pos hq]
    · rw [if_neg (fun z => hq ((hf_0ltL hr).mp z)), if_neg hq, Int64.ofInt_neg]
  rw [e1]; exact w _ _
end HFM
theorem hf_le {a b : Nat} (h : Nat.ble a b = true) : a ≤ b := Nat.le_of_ble_eq_true h
theorem hf_tswg {M : hf_D} {pc : Nat} {lv : List (Nat × Nat × Int)} {st : List (Nat × Int)} {k : hf_M Int} {dflt lo hi : Int} {offs : Array Int} {len : Nat} {x : Int} (tgt : Nat) (hx0 : hf_inI x) (hdg : decode M.2.1 pc = .ok (.tableswitch dflt lo hi offs, len)) (h1 : x < lo ∨ hi < x ∨ offs[(x - lo).toNat]? = some dflt) (ht : (pc : Int) + dflt = (tgt : Int)) (h : hf_J M tgt lv st k) : hf_J M pc lv ((0, x) :: st) k := by
  by_cases h0 : x < lo ∨ hi < x
  · exact hf_tswd tgt hx0 hdg h0 ht h
  · rcases h1 with h1 | h1 | h1
    · exact absurd (Or.inl h1) h0
    · exact absurd (Or.inr h1) h0
    · exact hf_tsw tgt dflt hx0 hdg (fun z => h0 (Or.inl z)) (fun z => h0 (Or.inr z)) h1 ht h
