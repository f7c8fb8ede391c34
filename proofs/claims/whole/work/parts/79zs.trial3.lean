/-! TRIAL: the class's run, whole -/
section
variable {T : gT} {ν τ S : gN} {t pl : Int}
def rnQ (D S : gN) (t : Int) (R : gN) : Prop := TR D S t (tP0 D) R ∧ pT R ∧ (0 ≤ R 9 0 ∧ R 9 0 ≤ 3) ∧ bdd (R 10 0)
theorem s_run (hpl : pl = 18 ∨ pl = 23) (hR : pRw ν pl S) (hL : pL S) (hD : iSt ν) (ht : 0 ≤ t ∧ t ≤ 40) : gv (g_X6_run pl t) T ν (fun _ ν' => gfr wTr ν ν' ∧ ∃ R, rnQ ν S t R ∧ tC ν' R t ∧ ν' (-2802) 0 = R 9 0 ∧ ν' (-2803) 0 = R 10 0) := by
  unfold g_X6_run g_X6_run_24
  refine gv_call (s_X1_start_o29 (t := t) hD.1) (fun _ τ0 h0 => gv_put (gv_put ?_))
  obtain ⟨f0, g30, g08, g09, g10, g11, g12, g13⟩ := h0
  generalize hσ : gup (gup τ0 (-2802) 0 (-1)) (-2803) 0 (-1) = σ
  have fσ : gfr [-2802, -2803] τ0 σ := by rw [← hσ]; exact ((gfr.refl _ _).up (by decide)).up (by decide)
  have e2 : σ (-2802) 0 = -1 := by rw [← hσ, gup_ne (by decide), gup_at]
  have e3 : σ (-2803) 0 = -1 := by rw [← hσ, gup_at]
  have hfσ : gfr wTr ν σ := (f0.mono (by decide)).trans (fσ.mono (by decide))
  have hC0 : tC σ (tP0 ν) t := by
    refine (show tC τ0 (tP0 ν) t from ⟨g08, g09, g10, g30, g11, g13, g12, fun i a b => ?_⟩).fr fσ (by decide)
    have b' : i < 0 := b
    omega
  refine gv_fx (fun (x : Int) τ => gfr wTr ν τ ∧ ((∃ P, (∀ R, TR ν S t P R → TR ν S t (tP0 ν) R) ∧ tC τ P t ∧ pT P ∧ P 9 0 = -1 ∧ P 10 0 = -1 ∧ x = P 3 0 ∧ τ (-2802) 0 = -1 ∧ τ (-2803) 0 = -1) ∨ (∃ R, rnQ ν S t R ∧ tC τ R t ∧ τ (-2802) 0 = R 9 0 ∧ τ (-2803) 0 = R 10 0 ∧ 0 ≤ x ∧ x ≤ 202))) (fun x _ => (300 - x).toNat) ⟨hfσ, Or.inl ⟨tP0 ν, fun _ h => h, hC0, pT_0 hD, rfl, rfl, rfl, e2, e3⟩⟩ (by omega) ?_
  intro rec x τ hI hrec
  obtain ⟨hf, hI⟩ := hI
  have ef : ∀ a : Int, a ∉ wTr → τ a = ν a := fun a ha => hf a ha
  unfold gB_X6_run_24 g_X6_run_77
  rcases hI with ⟨P, hstep, hC, hp, h9, h10, hx, i2, i3⟩ | ⟨R, hQ, hC, i2, i3, hx⟩
  · have p1 := hp.1
    have p2 := hp.2.1
    have p3 := hp.2.2.1
    refine gv_cb ⟨⟨by omega, by omega⟩, ⟨by omega, by omega⟩⟩ (fun c => by omega) (fun c => gv_get ?_)
    rw [i2]
    refine gv_cb (by decide) (fun g => absurd rfl g) (fun _ => gv_get (gv_get ?_))
    rw [hC.2.1, hC.2.2.1]
    refine gv_cb ⟨⟨by omega, by omega⟩, ⟨by omega, by omega⟩⟩ (fun ck => gv_put (gv_ck (by unfold hf_inI; omega) (gv_put (gv_let ?_)))) (fun ck => ?_)
    · generalize hρ : gup (gup τ (-2802) 0 0) (-2803) 0 t = ρ
      have fρ : gfr [-2802, -2803] τ ρ := by rw [← hρ]; exact ((gfr.refl _ _).up (by decide)).up (by decide)
      refine hrec _ ρ ⟨hf.trans (fρ.mono (by decide)), Or.inr ⟨gup (gup P 9 0 0) 10 0 t, ⟨hstep _ ⟨1, Or.inl ⟨ck, rfl⟩⟩, pT_up (pT_up hp (by decide)) (by decide), ?_, ?_⟩, tC_up (tC_up (hC.fr fρ (by decide)) (by decide)) (by decide), ?_, ?_, by omega, by omega⟩⟩ (by omega)
      · rw [gup_ne (by decide), gup_at]; decide
      · rw [gup_at]; unfold bdd mxv; omega
      · rw [← hρ, gup_ne (by decide), gup_at, gup_ne (by decide), gup_at]
      · rw [← hρ, gup_at, gup_at]
    · have hR' : pRw τ pl S := pRw_fr hR (fun r hr => ef r (by
        unfold wTr
        simp only [List.mem_cons, List.not_mem_nil, or_false]; omega))
      have hD' : iSt τ := iSt_eq (hf.eq (by decide)) hD
      refine gv_call (s_takeTurn (D := ν) hpl hR' hL hD' hC hp ht (by omega) h9 h10 i2 i3 (ef 3 (by decide)).symm (ef 5 (by decide)).symm (ef (-204) (by decide)).symm (ef (-205) (by decide)).symm (ef (-200) (by decide)).symm) (fun _ ρ hq => gv_let ?_)
      obtain ⟨fρ, hq⟩ := hq
      rcases hq with ⟨R, q1, q2, q3, q4, q5, q6, q7⟩ | ⟨P', q1, q2, q3, q4, q5, q6, q7, q8⟩
      · exact hrec _ ρ ⟨hf.trans fρ, Or.inr ⟨R, ⟨hstep R ⟨1, q1⟩, q3, q6, q7⟩, q2, q4, q5, by omega, by omega⟩⟩ (by omega)
      · exact hrec _ ρ ⟨hf.trans fρ, Or.inl ⟨P', fun R hh => hstep R (by obtain ⟨f, hh⟩ := hh; exact ⟨f + 1, q1 f R hh⟩), q2, q3, q4, q5, by omega, q7, q8⟩⟩ (by omega)
  · have q := hQ.2.2.1
    refine gv_cb ⟨⟨by omega, by omega⟩, ⟨by omega, by omega⟩⟩ (fun c => gv_ret ⟨hf, R, hQ, hC, i2, i3⟩) (fun c => gv_get ?_)
    rw [i2]
    exact gv_cb (by omega) (fun _ => gv_ret ⟨hf, R, hQ, hC, i2, i3⟩) (fun g => absurd (by omega) g)
end
