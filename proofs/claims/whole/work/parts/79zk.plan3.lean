/-! PLAN: the pair -/
section
variable {T : gT} {ν : gN} {x : Int}
theorem pI_0 : pI (fun _ _ => 0) := ⟨⟨by decide, by decide, fun j a1 a2 => by dsimp only at a2; omega, fun i a1 a2 => by dsimp only at a2; omega⟩, Or.inl ⟨rfl, rfl, rfl⟩⟩
theorem wCl_in {ps : Int} (h : ps = 18 ∨ ps = 23) : ∀ a ∈ wCl ps, a ∈ wPn := by rcases h with e | e <;> subst e <;> decide
theorem iTp_0 {ν' : gN} (h : iTp ν) (h1 : ν' (-102) 0 = 0) (h2 : ν' (-6901) 0 = 0) (h3 : ν' 7 = ν 7) (h4 : ν' 70 = ν 70) : iTp ν' := by
  obtain ⟨t1, t2, t3⟩ := h
  exact ⟨by omega, by omega, fun i a b => by rw [h3, h4]; exact t3 i a b⟩
theorem c_plan (hx : -2147483648 ≤ x ∧ x ≤ 2147483647) (ht : iTp ν) (hw : iWd ν) (hp : iPl ν) : gb (g_X11_plan x) (g_X12_plan x) T ν (fun r ν' => (-2 ≤ r ∧ r ≤ 12) ∧ gfr wPn ν ν' ∧ iTp ν' ∧ iPl ν') := by
  have hp' := id hp
  obtain ⟨p1, ⟨p2, p3, p4, p4'⟩, ⟨p5, p6⟩, p7, p8, S0, p9, p10, p11⟩ := hp
  have hps : ν (-105) 0 = 18 ∨ ν (-105) 0 = 23 := by omega
  have ht' := id ht
  obtain ⟨t1, t2, t3⟩ := ht
  have hbr : ∀ i : Int, 0 ≤ i → i < 400 → -2147483648 ≤ ν 7 i ∧ ν 7 i ≤ 2147483647 := fun i a b => (t3 i a b).1
  have href : ¬ (0 ≤ x ∧ x ≤ ν (-102) 0) → gv (g_X12_plan x) T ν (fun r2 ν2 => r2 = -2 ∧ (-2 ≤ (-2 : Int) ∧ (-2 : Int) ≤ 12) ∧ gfr wPn ν ν2 ∧ iTp ν2 ∧ iPl ν2) := fun hc => by
    refine (s_X12_plan (b := ν 7) (S := fun _ _ => 0) hx (by omega) (fun i a b => (t3 i a b).2) hbr hw pI_0 rfl rfl rfl rfl ⟨(x + 1).toNat, by omega, rfl⟩).mono (fun r ν2 hh => ?_)
    obtain ⟨_, q⟩ := hh
    rcases q with ⟨_, rfl, f⟩ | ⟨g, _⟩
    · refine ⟨rfl, by decide, f.mono (by decide), ⟨by rw [f _ (by decide)]; exact t1, by rw [f _ (by decide), f _ (by decide)]; exact t2, fun i a b => by rw [f _ (by decide), f _ (by decide)]; exact t3 i a b⟩, ?_⟩
      have ef : ∀ a : Int, a ≠ -6902 → ν2 a = ν a := fun a ha => f a (by simp only [List.mem_cons, List.not_mem_nil, or_false]; exact ha)
      unfold iPl
      rw [ef (-104) (by decide), ef (-105) (by decide), ef (-6911) (by decide), ef (-6912) (by decide), ef (-811) (by decide), ef (-812) (by decide), ef (-6918) (by decide), ef (-106) (by decide), ef (-6919) (by decide), ef (-6920) (by decide), ef (-(100 * ν (-104) 0 + 0)) (by omega), ef (-(100 * ν (-104) 0 + 1)) (by omega)]
      exact ⟨p1, ⟨p2, p3, p4, p4'⟩, ⟨p5, p6⟩, p7, p8, S0, pRw_fr p9 (fun r hr => ef r (by omega)), p10, rowsP_fr p11 p10 (f.lo3 (by decide)) (f.lo5 (by decide))⟩
    · exact absurd (by omega) hc
  unfold gb g_X11_plan
  refine gv_cz ⟨by omega, by omega⟩ (fun c => gv_ret (href (by omega))) (fun c => gv_get (gv_cb ⟨⟨by omega, by omega⟩, ⟨by omega, by omega⟩⟩ (fun c2 => gv_get ?_) (fun c2 => gv_ret (href (by omega)))))
  refine gv_call (s_X5_read (b := ν 7) hps (by omega) rfl hbr) (fun _ ν1 hh => gv_put (gv_get ?_))
  obtain ⟨f1, S, R, hI, s0, s1, s2, s7, hR, hRi, e811, e812, hgood⟩ := hh
  generalize hps0 : ν (-105) 0 = ps at *
  rw [gup_ne (by decide), e811]
  have f1' := f1.mono (wCl_in hps)
  have nW : ∀ a : Int, a ∉ wPn → ν1 a = ν a := fun a ha => f1' a ha
  have ncl : ∀ a : Int, a ∈ ([-102, -104, -105, -106, -6901, 7, 70, 75, 76, 77, 78, 79, 80, 81, 82, 83, -6918, -6919, -6920] : List Int) → ν1 a = ν a := fun a ha => f1 a (by
    have key : ∀ p, p = 18 ∨ p = 23 → ∀ a ∈ ([-102, -104, -105, -106, -6901, 7, 70, 75, 76, 77, 78, 79, 80, 81, 82, 83, -6918, -6919, -6920] : List Int), a ∉ wCl p := by
      intro p hp
      rcases hp with e | e <;> subst e <;> decide
    exact key ps hps a ha)
  -- the reference's call from a state of the class's
  have hmod : ∀ τ : gN, gfr [-102, -104, -105, -106] ν1 τ → gv (g_X12_plan x) T τ (fun r τ' => τ' (-6901) 0 = 0 ∧ ∃ τ0, gfr [-6902, -6901, -6911, -6912, -6913, -6914, -6915, -6916, -6917, -6921, -6922, -6936] τ τ0 ∧ plQ τ0 R r τ') := fun τ hτ => by
    have e1 : τ (-6901) 0 = ν (-102) 0 := by rw [hτ _ (by decide), ncl _ (by decide)]; exact t2
    have hw' : iWd τ := by unfold iWd at hw ⊢; rw [hτ 75 (by decide), ncl 75 (by decide)]; exact hw
    refine (s_X12_plan (b := ν 7) (S := S) hx (by omega) (fun i a b => by rw [hτ 70 (by decide), ncl 70 (by decide)]; exact (t3 i a b).2) hbr hw' hI s0 s1 s2 s7 hR).mono (fun r τ' hh => ?_)
    rcases hh.2 with ⟨g, _⟩ | ⟨_, g⟩
    · exact absurd (by omega) g
    · exact g
  refine gv_cz (by omega) (fun cz => ?_) (fun cz => gv_ret ?_)
  · obtain ⟨g1, g2, g3⟩ := hgood cz
    have hL := g1.1
    refine gv_get (gv_get (gv_put (gv_put (gv_put (gv_get ?_)))))
    generalize hσ : gup (gup (gup (gup ν1 (-102) 0 0) (-104) 0 (gup ν1 (-102) 0 0 (-105) 0)) (-105) 0 (gup ν1 (-102) 0 0 (-104) 0)) (-106) 0 1 = σ
    have hfσ : gfr [-102, -104, -105, -106] ν1 σ := by rw [← hσ]; exact ((((gfr.refl _ _).up (by decide)).up (by decide)).up (by decide)).up (by decide)
    have v102 : σ (-102) 0 = 0 := by rw [← hσ]; simp (disch := decide) only [gup_ne, gup_at]
    have v104 : σ (-104) 0 = ps := by rw [← hσ]; simp (disch := decide) only [gup_ne, gup_at]; rw [ncl _ (by decide)]; exact hps0
    have v105 : σ (-105) 0 = ν (-104) 0 := by rw [← hσ]; simp (disch := decide) only [gup_ne, gup_at]; rw [ncl _ (by decide)]
    have v106 : σ (-106) 0 = 1 := by rw [← hσ, gup_at]
    rw [v104]
    have g3σ : pRw σ ps R.2.2 := pRw_fr g3 (fun r hr => hfσ r (by
      simp only [List.mem_cons, List.not_mem_nil, or_false]
      omega))
    refine gv_ck hps (gv_get (gv_ret ?_))
    rw [g3σ.1]
    refine (hmod σ hfσ).mono (fun r ν2 hh => ?_)
    obtain ⟨m1, τ0, m2, m3, m4, m5, m6⟩ := hh
    rcases m6 with ⟨g, _⟩ | ⟨_, m7, m8, m9, m10, m11⟩
    · exact absurd cz g
    have b7 := hL.1
    have ef : ∀ a : Int, a ∉ ([-6902, -6901, -6913] ++ wPm : List Int) → ν2 a = σ a := fun a ha => by
      rw [m3 a (fun g => ha (List.mem_append_right _ g)), m2 a (fun g => ha ?_)]
      revert g
      simp only [wPm, wPl, List.mem_append, List.mem_cons, List.not_mem_nil, or_false]
      omega
    have nin : ∀ a : Int, (a = -(100 * ps + 0) ∨ a = -(100 * ps + 1) ∨ a = ps + 1 ∨ a = ps + 2 ∨ a = ps + 3 ∨ a = ps + 4) → ν2 a = σ a := fun a ha => ef a (by
      have key : ∀ p, p = 18 ∨ p = 23 → ∀ a ∈ ([-(100 * p + 0), -(100 * p + 1), p + 1, p + 2, p + 3, p + 4] : List Int), a ∉ ([-6902, -6901, -6913] ++ wPm : List Int) := by
        intro p hp
        rcases hp with e | e <;> subst e <;> decide
      exact key ps hps a (by simp only [List.mem_cons, List.not_mem_nil, or_false]; exact ha))
    refine ⟨m7, by omega, ?_, iTp_0 ht' (by rw [ef _ (by decide)]; exact v102) m1 (by rw [ef _ (by decide), hfσ _ (by decide), ncl _ (by decide)]) (by rw [ef _ (by decide), hfσ _ (by decide), ncl _ (by decide)]), ?_⟩
    · refine (f1'.trans (hfσ.mono (by decide))).trans (fun a ha => ef a (fun g => ha ?_))
      have key : ∀ a ∈ ([-6902, -6901, -6913] ++ wPm : List Int), a ∈ wPn := by decide
      exact key a g
    · unfold iPl
      have z104 : ν2 (-104) 0 = ps := by rw [ef _ (by decide)]; exact v104
      have z105 : ν2 (-105) 0 = ν (-104) 0 := by rw [ef _ (by decide)]; exact v105
      rw [z104, z105]
      have g3' : pRw ν2 ps R.2.2 := pRw_fr g3σ nin
      refine ⟨by omega, ⟨?_, ?_, ?_, ?_⟩, ⟨?_, ?_⟩, ?_, ?_, R.2.2, g3', hL, m11⟩
      · rw [m4, ef (-811) (by decide), hfσ _ (by decide)]; exact e811.symm
      · rw [m5, ef (-812) (by decide), hfσ _ (by decide)]; exact e812.symm
      · rw [ef (-811) (by decide), hfσ _ (by decide), e811]; omega
      · rw [ef (-812) (by decide), hfσ _ (by decide), e812]; omega
      · rw [m8, ef (-106) (by decide), v106]
      · rw [ef (-106) (by decide), v106]; decide
      · rw [m9]; exact g3'.1.symm
      · rw [m10]; exact g3'.2.1.symm
  · generalize hσ : gup ν1 (-102) 0 0 = σ
    have hfσ : gfr [-102, -104, -105, -106] ν1 σ := by rw [← hσ]; exact (gfr.refl _ _).up (by decide)
    have hfσ' : gfr [-102] ν1 σ := by rw [← hσ]; exact (gfr.refl _ _).up (by decide)
    have v102 : σ (-102) 0 = 0 := by rw [← hσ, gup_at]
    refine (hmod σ hfσ).mono (fun r ν2 hh => ?_)
    obtain ⟨m1, τ0, m2, m3, m4, m5, m6⟩ := hh
    rcases m6 with ⟨_, m7, m8, m9, m10⟩ | ⟨g, _⟩
    · have ef : ∀ a : Int, a ∉ ([-6902, -6901, -6913] ++ wPl : List Int) → ν2 a = σ a := fun a ha => by
        rw [m10 a (fun g => ha (List.mem_append_right _ g)), m2 a (fun g => ha ?_)]
        revert g
        simp only [wPl, List.mem_append, List.mem_cons, List.not_mem_nil, or_false]
        omega
      have z104 : ν2 (-104) 0 = ν (-104) 0 := by rw [ef _ (by decide), hfσ' _ (by decide), ncl _ (by decide)]
      have z105 : ν2 (-105) 0 = ps := by rw [ef _ (by decide), hfσ' _ (by decide), ncl _ (by decide)]; exact hps0
      have hpl : ν (-104) 0 = 18 ∧ ps = 23 ∨ ν (-104) 0 = 23 ∧ ps = 18 := by omega
      have nin : ∀ a : Int, (a = -(100 * ν (-104) 0 + 0) ∨ a = -(100 * ν (-104) 0 + 1) ∨ a = ν (-104) 0 + 1 ∨ a = ν (-104) 0 + 2 ∨ a = ν (-104) 0 + 3 ∨ a = ν (-104) 0 + 4) → ν2 a = ν a := fun a ha => by
        have key : ∀ p q, (p = 18 ∧ q = 23 ∨ p = 23 ∧ q = 18) → ∀ a ∈ ([-(100 * p + 0), -(100 * p + 1), p + 1, p + 2, p + 3, p + 4] : List Int), a ∉ ([-6902, -6901, -6913] ++ wPl : List Int) ∧ a ∉ ([-102] : List Int) ∧ a ∉ wCl q := by
          intro p q hpq
          rcases hpq with ⟨e, e'⟩ | ⟨e, e'⟩ <;> subst e <;> subst e' <;> decide
        have hk := key (ν (-104) 0) ps hpl a (by simp only [List.mem_cons, List.not_mem_nil, or_false]; exact ha)
        rw [ef a hk.1, hfσ' a hk.2.1, f1 a hk.2.2]
      refine ⟨m7, by decide, ?_, iTp_0 ht' (by rw [ef _ (by decide)]; exact v102) m1 (by rw [ef _ (by decide), hfσ' _ (by decide), ncl _ (by decide)]) (by rw [ef _ (by decide), hfσ' _ (by decide), ncl _ (by decide)]), ?_⟩
      · refine (f1'.trans (hfσ.mono (by decide))).trans (fun a ha => ef a (fun g => ha ?_))
        have key : ∀ a ∈ ([-6902, -6901, -6913] ++ wPl : List Int), a ∈ wPn := by decide
        exact key a g
      · unfold iPl
        rw [z104, z105]
        have h3 : lo3 ν ν2 := fun j hj => by
          obtain ⟨a1, a2, a3⟩ := m8 j hj
          rw [a1, a2, a3, m2 76 (by decide), m2 77 (by decide), m2 78 (by decide), hfσ' 76 (by decide), hfσ' 77 (by decide), hfσ' 78 (by decide), ncl 76 (by decide), ncl 77 (by decide), ncl 78 (by decide)]
          exact ⟨rfl, rfl, rfl⟩
        have h5 : lo5 ν ν2 := fun r hr j hj => by
          rw [m9 r hr j hj]
          rcases hr with e | e | e | e | e <;> subst e <;> rw [m2 _ (by decide), hfσ' _ (by decide), ncl _ (by decide)]
        refine ⟨p1, ⟨?_, ?_, ?_, ?_⟩, ⟨?_, ?_⟩, ?_, ?_, S0, pRw_fr p9 nin, p10, rowsP_fr p11 p10 h3 h5⟩
        · rw [m4, ef (-811) (by decide), hfσ' _ (by decide)]; exact e811.symm
        · rw [m5, ef (-812) (by decide), hfσ' _ (by decide)]; exact e812.symm
        · rw [ef (-811) (by decide), hfσ' _ (by decide), e811]; omega
        · rw [ef (-812) (by decide), hfσ' _ (by decide), e812]; omega
        · rw [ef (-6918) (by decide), ef (-106) (by decide), hfσ' _ (by decide), hfσ' _ (by decide), ncl _ (by decide), ncl _ (by decide)]; exact p5
        · rw [ef (-106) (by decide), hfσ' _ (by decide), ncl _ (by decide)]; exact p6
        · rw [ef (-6919) (by decide), hfσ' _ (by decide), ncl _ (by decide), nin _ (by simp)]; exact p7
        · rw [ef (-6920) (by decide), hfσ' _ (by decide), ncl _ (by decide), nin _ (by simp)]; exact p8
    · exact absurd g cz
end
