/-! TRIAL: the reference's run, whole -/
section
variable {T : gT} {ν τ S P : gN} {t : Int}
def rvQ (ν S : gN) (t : Int) (τ' : gN) : Prop := gfr wTq ν τ' ∧ ∃ R, rnQ ν S t R ∧ tQ τ' R ∧ τ' (-6942) 0 = R 9 0 ∧ τ' (-6946) 0 = R 10 0
theorem nmR_of (h : tQ τ P) (h2 : τ 86 2 = P 1 0 - P 0 0) : nmR τ (nmv P) := by
  obtain ⟨h0, h1, h3, h4, h5, h6, _⟩ := h
  intro i a b
  by_cases c0 : i = 0
  · rw [c0]; exact h0
  by_cases c1 : i = 1
  · rw [c1]; exact h1
  by_cases c2 : i = 2
  · rw [c2]; exact h2
  by_cases c3 : i = 3
  · rw [c3]; exact h3
  by_cases c4 : i = 4
  · rw [c4]; exact h4
  by_cases c5 : i = 5
  · rw [c5]; exact h5
  have := h6 (i - 6) (by omega) (by omega)
  rw [show 6 + (i - 6) = i by omega] at this
  rw [this]
  unfold nmv
  rw [if_neg c0, if_neg c1, if_neg c2, if_neg c3, if_neg c4, if_neg c5]
theorem s_runs95 (hP : rowsP ν S) (h19 : ν (-6919) 0 = S 7 0) (hL : pL S) (hD : iSt ν) (ht : 0 ≤ t ∧ t ≤ 40) (hf0 : gfr wTq ν τ) (hq0 : tQ τ (tP0 ν)) (e42 : τ (-6942) 0 = 3) (e46 : τ (-6946) 0 = -1) : gv (g_X12_runs_95 t) T τ (fun _ τ' => rvQ ν S t τ') := by
  have b7 := hL.1
  have b2 := hL.2.1
  unfold g_X12_runs_95
  refine gv_fx (fun (_ : Unit) σ => gfr wTq ν σ ∧ ∃ P, (∀ R, TR ν S t P R → TR ν S t (tP0 ν) R) ∧ tQ σ P ∧ pT P ∧ P 9 0 = -1 ∧ P 10 0 = -1 ∧ σ (-6942) 0 = 3 ∧ σ (-6946) 0 = -1) (fun _ σ => (300 - σ (-6943) 0).toNat) ⟨hf0, tP0 ν, fun _ h => h, hq0, pT_0 hD, rfl, rfl, e42, e46⟩ (by have := hq0.2.2.2.2.2.2.1; have e : tP0 ν 3 0 = 0 := rfl; omega) ?_
  intro rec _ σ hI hrec
  obtain ⟨hf, P, hstep, hQ, hp, h9, h10, i42, i46⟩ := hI
  have ef : ∀ a : Int, a ∉ wTq → σ a = ν a := fun a ha => hf a ha
  have p1 := hp.1
  have p2 := hp.2.1
  have p3 := hp.2.2.1
  unfold gB_X12_runs_95
  refine gv_al (by decide) (gv_al (by decide) ?_)
  rw [hQ.1, hQ.2.1]
  refine gv_cl (by omega) (fun ck => gv_ck (by unfold hf_inI; omega) (gv_put (gv_put (gv_ret ?_)))) (fun ck => gv_al (by decide) (gv_al (by decide) (gv_as (by decide) ?_)))
  · generalize hρ : gup (gup σ (-6946) 0 t) (-6942) 0 0 = ρ
    have fρ : gfr [-6946, -6942] σ ρ := by rw [← hρ]; exact ((gfr.refl _ _).up (by decide)).up (by decide)
    refine ⟨hf.trans (fρ.mono (by decide)), gup (gup P 9 0 0) 10 0 t, ⟨hstep _ ⟨1, Or.inl ⟨ck, rfl⟩⟩, pT_up (pT_up hp (by decide)) (by decide), ?_, ?_⟩, tQ_up (tQ_up (hQ.fr fρ (by decide)) (by decide)) (by decide), ?_, ?_⟩
    · rw [gup_ne (by decide), gup_at]; decide
    · rw [gup_at]; unfold bdd mxv; omega
    · rw [← hρ, gup_at, gup_ne (by decide), gup_at]
    · rw [← hρ, gup_ne (by decide), gup_at, gup_at]
  rw [hQ.1, hQ.2.1]
  have hlt : P 0 0 < P 1 0 := by omega
  have hN := nmB_of hp
  have x86 : ∀ j : Int, gup σ 86 2 (P 1 0 - P 0 0) 86 j = if j = 2 then P 1 0 - P 0 0 else σ 86 j := fun j => gup_same _ _ _ _ _
  have fα : gfr [86] σ (gup σ 86 2 (P 1 0 - P 0 0)) := (gfr.refl _ _).up (by decide)
  generalize gup σ 86 2 (P 1 0 - P 0 0) = α at x86 fα ⊢
  have hQα : tQ α P := by
    obtain ⟨h0, h1, h3, h4, h5, h6, h43, h44, h45, h88⟩ := hQ
    refine ⟨by rw [x86, if_neg (by decide)]; exact h0, by rw [x86, if_neg (by decide)]; exact h1, by rw [x86, if_neg (by decide)]; exact h3, by rw [x86, if_neg (by decide)]; exact h4, by rw [x86, if_neg (by decide)]; exact h5, fun k a c => by rw [x86, if_neg (by omega)]; exact h6 k a c, by rw [fα _ (by decide)]; exact h43, by rw [fα _ (by decide)]; exact h44, by rw [fα _ (by decide)]; exact h45, fun i a c => by rw [fα 88 (by decide), fα 89 (by decide), fα 90 (by decide)]; exact h88 i a c⟩
  have hNα : nmR α (nmv P) := nmR_of hQα (by rw [x86, if_pos rfl])
  have hfα : gfr wTq ν α := hf.trans (fα.mono (by decide))
  have rP : ∀ σ' : gN, gfr wTq ν σ' → rowsP σ' S := fun σ' h' => by
    refine rowsP_fr hP hL (h'.lo3 (by decide)) (h'.lo5 (by decide))
  -- stuck
  have stuck : ∀ σ' : gN, gfr [87, -6941] α σ' → trR ν S t 1 P (gup P 9 0 3) → rvQ ν S t σ' := fun σ' h' hR1 => by
    refine ⟨hfα.trans (h'.mono (by decide)), gup P 9 0 3, ⟨hstep _ ⟨1, hR1⟩, pT_up hp (by decide), ?_, ?_⟩, tQ_up (hQα.fr h' (by decide)) (by decide), ?_, ?_⟩
    · rw [gup_at]; decide
    · rw [gup_ne (by decide), h10]; unfold bdd mxv; omega
    · rw [gup_at, h' _ (by decide), fα _ (by decide)]; exact i42
    · rw [gup_ne (b := 10) (by decide), h' _ (by decide), fα _ (by decide), h10]; exact i46
  refine gv_call (s_lineR (rP α hfα) (by rw [hfα _ (by decide)]; exact h19) hL hN hNα) (fun l σ1 hl => ?_)
  obtain ⟨hln, f1⟩ := hl
  have hlr : -1 ≤ l ∧ l < 12 := by
    rcases hln with ⟨a, _⟩ | ⟨a, _⟩ <;> omega
  refine gv_cz ⟨by omega, by omega⟩ (fun cl => ?_) (fun cl => gv_ret (stuck σ1 f1 (Or.inr ⟨hlt, l, hln, Or.inl ⟨by omega, rfl⟩⟩)))
  have hl0 : 0 ≤ l ∧ l < S 7 0 := by
    rcases hln with ⟨a, _⟩ | ⟨a, _⟩ <;> omega
  obtain ⟨i1, i2, i3, i4, i5⟩ := cf_in hL hl0
  have hf1 : gfr wTq ν σ1 := hfα.trans (f1.mono (by decide))
  obtain ⟨r79, r80, r81, r82, r83⟩ := (rP σ1 hf1).2 l hl0.1 hl0.2
  refine gv_al (by omega) (gv_al (by omega) ?_)
  rw [r81, r82]
  refine gv_call (s_sumOf (W := S 8) (N := nmv P) ⟨i4.1, i4.2.1, by omega⟩ i4.2.2.1 (fun i a b => hL.2.2.1 i a (by omega)) (fun i hi => (rP σ1 hf1).1 i (by omega)) hN (fun j a1 a2 => by rw [f1 86 (by decide)]; exact hNα j a1 a2)) (fun v σ2 hh => gv_get ?_)
  obtain ⟨f2, hbv, q⟩ := hh
  have hbv' := hbv
  unfold bdd mxv at hbv'
  have f12 : gfr [87, -6941] α σ2 := f1.trans f2
  have hf2 : gfr wTq ν σ2 := hf1.trans (f2.mono (by decide))
  rcases q with ⟨q1, q2⟩ | ⟨q1, q2⟩
  · rw [q2]
    refine gv_cz (by decide) (fun _ => gv_al (by omega) ?_) (fun g => absurd rfl g)
    have e83 : σ2 83 l = dee (S 11 l) := ((rP σ2 hf2).2 l hl0.1 hl0.2).2.2.2.2
    rw [e83]
    have hdee : dee (S 11 l) = if S 11 l = 3 then -1 else S 11 l := rfl
    by_cases c3 : S 11 l = 3
    · rw [hdee, if_pos c3]
      refine gv_cz (by decide) (fun g => absurd g (by decide)) (fun _ => gv_put (gv_ck (by unfold hf_inI; omega) (gv_ck ⟨bdd_L hbv, by unfold hf_inL; omega⟩ (gv_let (gv_put (gv_ret ?_))))))
      have ew : (if ¬ v = t then (2 : Int) else 1) = if v = t then 1 else 2 := by
        by_cases c : v = t
        · rw [if_neg (fun g => g c), if_pos c]
        · rw [if_pos c, if_neg c]
      rw [ew]
      generalize hρ : gup (gup σ2 (-6946) 0 v) (-6942) 0 (if v = t then 1 else 2) = ρ
      have fρ : gfr [-6946, -6942] σ2 ρ := by rw [← hρ]; exact ((gfr.refl _ _).up (by decide)).up (by decide)
      refine ⟨hf2.trans (fρ.mono (by decide)), gup (gup P 10 0 v) 9 0 (if v = t then 1 else 2), ⟨hstep _ ⟨1, Or.inr ⟨hlt, l, hln, Or.inr ⟨hl0.1, Or.inr ⟨v, q1, Or.inl ⟨c3, rfl⟩⟩⟩⟩⟩, pT_up (pT_up hp (by decide)) (by decide), ?_, ?_⟩, tQ_up (tQ_up ((hQα.fr f12 (by decide)).fr fρ (by decide)) (by decide)) (by decide), ?_, ?_⟩
      · rw [gup_at]; split <;> omega
      · rw [gup_ne (by decide), gup_at]; exact hbv
      · rw [← hρ, gup_at, gup_at]
      · rw [← hρ, gup_ne (by decide), gup_at, gup_ne (by decide), gup_at]
    · rw [hdee, if_neg c3]
      have hk3 : 0 ≤ S 11 l ∧ S 11 l < 3 := by omega
      have hbad : bad ν P (S 11 l) v → rvQ ν S t σ2 := fun hb => stuck σ2 f12 (Or.inr ⟨hlt, l, hln, Or.inr ⟨hl0.1, Or.inr ⟨v, q1, Or.inr ⟨c3, Or.inl ⟨hb, rfl⟩⟩⟩⟩⟩)
      have hst := hD.1
      have e03 : σ2 (-6903) 0 = ν (-200) 0 := by rw [hf2 _ (by decide)]; exact hD.2.2.2.2.2.1
      have hQ2 := hQα.fr f12 (by decide)
      have hk4 := hp.2.2.2.1 (S 11 l) hk3.1 hk3.2
      refine gv_cz (by omega) (fun _ => gv_cl (by omega) (fun c1 => gv_ret (hbad (Or.inl c1))) (fun c1 => gv_get ?_)) (fun g => absurd hk3.1 g)
      rw [e03]
      refine gv_ck (by unfold hf_inI; omega) (gv_cl (by omega) (fun c4 => gv_ret (hbad (Or.inr (Or.inl c4)))) (fun c4 => gv_al (by omega) ?_))
      rw [hQ2.2.2.2.2.2.1 (S 11 l) hk3.1 hk3.2]
      refine gv_cl (by omega) (fun c5 => gv_ret (hbad (Or.inr (Or.inr (Or.inl (by omega)))))) (fun c5 => gv_get ?_)
      rw [hQ2.2.2.2.2.2.2.1]
      refine gv_cb ⟨⟨by omega, by omega⟩, ⟨by omega, by omega⟩⟩ (fun c6 => ?_) (fun c6 => gv_ret (hbad (Or.inr (Or.inr (Or.inr (by omega))))))
      have hD2 : iSt σ2 := iSt_eq (hf2.eq (by decide)) hD
      refine gv_call (s_lets (D := ν) hQ2 hp hD2 ht hk3 (by omega) (by omega) (by omega) (hf2 3 (by decide)).symm (hf2 5 (by decide)).symm (hf2 (-204) (by decide)).symm (hf2 (-205) (by decide)).symm) (fun _ σ3 h3 => ?_)
      obtain ⟨f3, g3, g42, g46⟩ := h3
      have hfr := fal_r (D := ν) (P := P) (t := t) (k := S 11 l) (s := v)
      refine hrec () σ3 ⟨hf2.trans f3, fal ν t P (S 11 l) v, fun R hR => hstep R ?_, g3, pT_fal hp hD hk3 (by omega) (by omega) (by omega), ?_, ?_, ?_, ?_⟩ ?_
      · obtain ⟨f, hR⟩ := hR
        refine ⟨f + 1, Or.inr ⟨hlt, l, hln, Or.inr ⟨hl0.1, Or.inr ⟨v, q1, Or.inr ⟨c3, Or.inr ⟨fun hb => ?_, hR⟩⟩⟩⟩⟩⟩
        unfold bad at hb; omega
      · rw [hfr.2.2.2.2.2.2.2.2.2.1]; exact h9
      · rw [hfr.2.2.2.2.2.2.2.2.2.2]; exact h10
      · rw [g42, f12 _ (by decide), fα _ (by decide)]; exact i42
      · rw [g46, f12 _ (by decide), fα _ (by decide)]; exact i46
      · have := g3.2.2.2.2.2.2.1
        have := hQ.2.2.2.2.2.2.1
        have := hfr.2.2.2.1
        omega
  · rw [q2]
    exact gv_cz (by decide) (fun g => absurd g (by decide)) (fun _ => gv_ret (stuck σ2 f12 (Or.inr ⟨hlt, l, hln, Or.inr ⟨hl0.1, Or.inl ⟨q1, rfl⟩⟩⟩)))
theorem s_runs (hP : rowsP ν S) (h19 : ν (-6919) 0 = S 7 0) (hL : pL S) (hD : iSt ν) (ht : 0 ≤ t ∧ t ≤ 40) : gv (g_X12_runs t) T ν (fun _ τ' => rvQ ν S t τ') := by
  have hst := hD.1
  have e03 : ν (-6903) 0 = ν (-200) 0 := hD.2.2.2.2.2.1
  unfold g_X12_runs
  refine gv_as (by decide) (gv_get ?_)
  rw [gup_ne (by decide), e03]
  refine gv_ck (by unfold hf_inI; omega) (gv_as (by decide) ?_)
  unfold g_X12_runs_20
  refine gv_fx (fun (x : Int) σ => (3 ≤ x ∧ x ≤ 6) ∧ gfr wTq ν σ ∧ σ 86 0 = 0 ∧ σ 86 1 = ν (-200) 0 ∧ ∀ j : Int, 3 ≤ j → j < x → σ 86 j = 0) (fun x _ => (6 - x).toNat) ⟨by omega, ((gfr.refl _ _).up (by decide)).up (by decide), by simp only [gup_same]; simp (disch := decide) only [if_neg, if_pos], by rw [gup_at], fun j a b => by omega⟩ (by decide) ?_
  intro rec x σ hI hrec
  obtain ⟨hx, hf, v0, v1, vj⟩ := hI
  unfold gB_X12_runs_20
  refine gv_cb ⟨⟨by omega, by omega⟩, ⟨by omega, by omega⟩⟩ (fun c => ?_) (fun c => gv_as (by omega) (gv_let (hrec _ _ ⟨by omega, hf.up (by decide), ?_, ?_, fun j a b => ?_⟩ (by omega))))
  · unfold g_X12_runs_41
    refine gv_fx (fun (y : Int) ρ => (0 ≤ y ∧ y ≤ 3) ∧ gfr wTq ν ρ ∧ ρ 86 0 = 0 ∧ ρ 86 1 = ν (-200) 0 ∧ (∀ j : Int, 3 ≤ j → j < 6 → ρ 86 j = 0) ∧ ∀ j : Int, 0 ≤ j → j < y → ρ 86 (6 + j) = ν 4 j) (fun y _ => (3 - y).toNat) ⟨by omega, hf, v0, v1, fun j a b => vj j a (by omega), fun j a b => by omega⟩ (by decide) ?_
    intro rec2 y ρ hI2 hrec2
    obtain ⟨hy, hf2, w0, w1, wj, wk⟩ := hI2
    unfold gB_X12_runs_41
    refine gv_cb ⟨⟨by omega, by omega⟩, ⟨by omega, by omega⟩⟩ (fun c2 => gv_put (gv_put (gv_put (gv_put (gv_put ?_))))) (fun c2 => gv_al (by omega) ?_)
    · generalize hπ : gup (gup (gup (gup (gup ρ (-6943) 0 0) (-6944) 0 0) (-6945) 0 0) (-6946) 0 (-1)) (-6942) 0 3 = π
      have fπ : gfr [-6943, -6944, -6945, -6946, -6942] ρ π := by rw [← hπ]; exact (((((gfr.refl _ _).up (by decide)).up (by decide)).up (by decide)).up (by decide)).up (by decide)
      refine s_runs95 hP h19 hL hD ht (hf2.trans (fπ.mono (by decide))) ⟨?_, ?_, ?_, ?_, ?_, fun k a b => ?_, ?_, ?_, ?_, fun i a b => ?_⟩ ?_ ?_
      · rw [fπ 86 (by decide)]; exact w0
      · rw [fπ 86 (by decide)]; exact w1
      · rw [fπ 86 (by decide)]; exact wj 3 (by decide) (by decide)
      · rw [fπ 86 (by decide)]; exact wj 4 (by decide) (by decide)
      · rw [fπ 86 (by decide)]; exact wj 5 (by decide) (by decide)
      · rw [fπ 86 (by decide)]; exact wk k a (by omega)
      · rw [← hπ]; simp (disch := decide) only [gup_ne, gup_at]; rfl
      · rw [← hπ]; simp (disch := decide) only [gup_ne, gup_at]; rfl
      · rw [← hπ]; simp (disch := decide) only [gup_ne, gup_at]; rfl
      · have b' : i < 0 := b
        omega
      · rw [← hπ, gup_at]
      · rw [← hπ, gup_ne (by decide), gup_at]
    · have e72 : ρ 72 y = ν 4 y := by rw [hf2 _ (by decide)]; exact (hD.2.2.2.2.2.2.1 y (by omega) (by omega)).2.1
      rw [e72]
      have hb4 := (hD.2.1 y (by omega) (by omega)).2.1
      refine gv_ck (by unfold hf_inI; omega) (gv_as (by omega) (gv_let (hrec2 _ _ ⟨by omega, hf2.up (by decide), ?_, ?_, fun j a b => ?_, fun j a b => ?_⟩ (by omega))))
      · rw [gup_same, if_neg (by omega)]; exact w0
      · rw [gup_same, if_neg (by omega)]; exact w1
      · rw [gup_same, if_neg (by omega)]; exact wj j a b
      · rw [gup_same]
        by_cases e : j = y
        · rw [if_pos (by omega), e]
        · rw [if_neg (by omega)]; exact wk j a (by omega)
  · rw [gup_same, if_neg (by omega)]; exact v0
  · rw [gup_same, if_neg (by omega)]; exact v1
  · rw [gup_same]
    by_cases e : j = x
    · rw [if_pos e]
    · rw [if_neg e]; exact vj j a (by omega)
end
