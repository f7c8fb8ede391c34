/-! ALL THAT HOLDS: the tables -/
section
variable {c : Nat} {T T' : gT} {ν ν' : gN}
def aFx : List Int := aSt ++ aTp ++ [75] ++ aPl ++ aNt ++ aHd
theorem aFx_104 : ∀ b ∈ aFx ++ aBs ++ aDy ++ [-5101, 92, 0], b ≤ 104 := by decide
theorem iAll_T (h : iAll c T ν) (hT : gext T T') (hT5 : T'.1 ≤ T.1 + 130) (e : ∀ b ∈ aFx, ν' b = ν b) (t7 : iBs T' ν') (t8 : iWk T' ν') (t9 : iLs T' ν') (hsep : ∀ b, rO ν' b → ¬ wkO ν' b) (e207 : ν' (-207) 0 = ν (-207) 0) (h3902 : ν' (-3902) 0 ≤ ν (-3902) 0 + 1) (hroom : gsl T' + wks3 ν' + lsp T' ν' + bsP ν' ≤ gsl T + wks3 ν + lsp T ν + bsP ν + 6) : iAll (c + 1) T' ν' := by
  obtain ⟨h1, h2, h3, h4, h5, h6, h7, h8, h9, r1, r2, r3, r4, r5, r6⟩ := h
  have ea : ∀ L : List Int, (∀ b ∈ L, b ∈ aFx) → ∀ b ∈ L, ν' b = ν b := fun L hL b hb => e b (hL b hb)
  exact ⟨iSt_eq (ea aSt (by decide)) h1, iTp_eq (ea aTp (by decide)) h2, iWd_eq (e 75 (by decide)) h3, iPl_eq (ea aPl (by decide)) h4, iNt_eq (ea aNt (by decide)) h5, iHd_eq (ea aHd (by decide)) h6, t7, t8, t9, hT.lay r1, hsep, by rw [e207]; omega, by omega, by omega, by omega⟩
theorem iAll.room (h : iAll c T ν) (hc : c ≤ 600) : 104 ≤ T.1 ∧ T.1 + 125 ≤ hf_cc ∧ gsl T + wks3 ν ≤ hf_cs ∧ gsl T + lsp T ν ≤ hf_cs ∧ gsl T + bsP ν ≤ hf_cs ∧ gsl T + 6 ≤ hf_cs := by
  obtain ⟨_, _, _, _, _, _, _, _, _, r1, r2, r3, r4, r5, r6⟩ := h
  have := r1.1
  have e1 : hf_cc = 601024 := rfl
  have e2 : hf_cs = 7293034 := rfl
  omega
theorem tag_no (h : iAll c T ν) {b : Int} (hb : rO ν b ∨ (104 < b ∧ wkO ν b)) : b ≠ ν (-5100) 0 := fun e => by
  have t9 := h.2.2.2.2.2.2.2.2.1
  have t22 := t9.1.2.2
  rcases hb with hb | ⟨h4, hb⟩
  · have := (rO_104 h.2.2.2.2.2.2.1 hb).2.2
    rw [e, t22] at this
    omega
  · have := (wkO_in h.2.2.2.2.2.2.2.2.2.1 h.2.2.2.2.2.2.2.1 hb).2 h4
    rw [e, t22] at this
    omega
theorem p_weak {x1 x2 : Int} (hc : c ≤ 600) (a1 : inI x1) (a2 : inI x2) (h : iAll c T ν) : gp (g_X11_weak x1 x2) (g_X12_weak x1 x2) T ν (fun r T' ν' => inI r ∧ aft c T ν r T' ν') := by
  obtain ⟨m1, m2, m3, m4, m5, m6⟩ := h.room hc
  have hst := h.1.1
  have e03 : ν (-6903) 0 = ν (-200) 0 := h.1.2.2.2.2.2.1
  have e71 : ν 71 0 = ν 3 0 := (h.1.2.2.2.2.2.2.1 0 (by decide) (by decide)).1
  have hd0 := (h.1.2.1 0 (by decide) (by decide)).1
  have hB := h.2.2.2.2.2.2.1
  have hK := h.2.2.2.2.2.2.2.1
  have hLs := h.2.2.2.2.2.2.2.2.1
  have hR := h.2.2.2.2.2.2.2.2.2
  have wc3 : wkc3 ν ≤ 3 := by unfold wkc3; split <;> omega
  refine (s_X11_weak hR.1 hK (by omega) m3 a1 a2 hst hd0).mono (fun r T1 ν1 q => ?_)
  obtain ⟨q1, q2, q3, q4, q5, q6, q7⟩ := q
  have fx : ∀ b : Int, b ≤ 104 → b ∉ ([-4600, -4601, -4602, -4603, -4604, -4605] : List Int) → ν1 b = ν b := fun b hb hn => q6 b (by omega) hn (by omega)
  have v03 : ν1 (-6903) 0 = ν (-200) 0 := by rw [fx _ (by decide) (by decide)]; exact e03
  have v71 : ν1 71 0 = ν 3 0 := by rw [fx _ (by decide) (by decide)]; exact e71
  have hT0 : T1.2 0 = T.2 0 := q2.2 0 (by omega)
  refine ⟨⟨fx 0 (by decide) (by decide), hT0⟩, (s_X12_weak a1 a2 (by rw [v03]; exact hst) (by rw [v71]; exact hd0)).mono (fun r2 ν2 w => ?_)⟩
  obtain ⟨w1, f2⟩ := w
  rw [v03, v71] at w1
  have fx2 : ∀ b : Int, b ≤ 104 → b ∉ ([-4600, -4601, -4602, -4603, -4604, -4605, 93, -6902] : List Int) → ν2 b = ν b := fun b hb hn => by
    simp only [List.mem_cons, List.not_mem_nil, or_false, not_or] at hn
    rw [f2 b (by simp only [List.mem_cons, List.not_mem_nil, or_false, not_or]; omega), fx b hb (by simp only [List.mem_cons, List.not_mem_nil, or_false, not_or]; omega)]
  have dy : ∀ b : Int, 104 < b → b ≤ T.1 → ¬ wkO ν b → ν2 b = ν b := fun b b1 b2 b3 => by
    rw [f2 b (by simp only [List.mem_cons, List.not_mem_nil, or_false, not_or]; omega), q6 b b2 (by simp only [List.mem_cons, List.not_mem_nil, or_false, not_or]; omega) (fun g => b3 g.2)]
  have e : ∀ b ∈ aFx ++ aBs ++ [40, -5100, -5101, -207, -3902, 92, 0], ν2 b = ν b := fun b hb => fx2 b ((by decide : ∀ b ∈ aFx ++ aBs ++ [40, -5100, -5101, -207, -3902, 92, 0], b ≤ 104) b hb) ((by decide : ∀ b ∈ aFx ++ aBs ++ [40, -5100, -5101, -207, -3902, 92, 0], b ∉ ([-4600, -4601, -4602, -4603, -4604, -4605, 93, -6902] : List Int)) b hb)
  have k0 : ν2 (-4600) = ν1 (-4600) := f2 _ (by decide)
  have k1 : ν2 (-4601) = ν1 (-4601) := f2 _ (by decide)
  have k2 : ν2 (-4602) = ν1 (-4602) := f2 _ (by decide)
  have hls := iLs_eq q2 (e (-5100) (by decide)) (e (-5101) (by decide)) (fun g => dy _ g (by have := hLs.1.2.1; omega) (fun hw => tag_no h (Or.inr ⟨g, hw⟩) rfl)) hLs
  have hrO : ∀ b, rO ν2 b ↔ rO ν b := fun b => by unfold rO; rw [e 40 (by decide)]
  have hwO : ∀ b, wkO ν2 b ↔ wkO ν1 b := fun b => by unfold wkO; rw [k0, k1, k2]
  have hb1 : iBs T1 ν2 := iBs_eq q2 (fun b hb => e b (List.mem_append_left _ (List.mem_append_right _ hb))) (by rw [e 92 (by decide)]; exact hB.2.2.2.2.2.2.1) (fun b hb => by
    have g := rO_104 hB hb
    exact dy b g.1 g.2.1 (hR.2.1 b hb)) hB
  have ew : wks3 ν2 = wks3 ν1 := by unfold wks3; rw [k0]
  have eb : bsP ν2 = bsP ν := by unfold bsP; rw [e 40 (by decide)]
  have wc1 : wkc3 ν1 ≤ 3 := by unfold wkc3; split <;> omega
  refine ⟨by rw [w1, q1], ?_, iAll_T h q2 (by omega) (fun b hb => e b (List.mem_append_left _ (List.mem_append_left _ hb))) hb1 (iWk_eq (gext.refl _) k0 k1 k2 q3) hls.1 (fun b hb hw => ?_) (by rw [e _ (by decide)]) (by rw [e _ (by decide)]; omega) (by rw [hls.2, ew, eb]; omega), e 0 (by decide), hT0⟩
  · rw [q1]
    by_cases ok : (1 ≤ x1 ∧ x1 ≤ 4) ∧ (0 ≤ x2 ∧ x2 ≤ 3)
    · rw [if_pos ok]
      have := wk_in (ν (-200) 0) (ν 3 0) x2 x1.toNat _ 0 (ν (-200) 0) 0 rfl (by omega)
      unfold wkA inI
      split <;> omega
    · rw [if_neg ok]; unfold inI; omega
  · have hb' := (hrO b).mp hb
    rcases q7 b ((hwO b).mp hw) with g | g
    · exact hR.2.1 b hb' g
    · have := (rO_104 hB hb').2.1; omega
theorem p_lies {x1 x2 : Int} (hc : c ≤ 600) (a1 : inI x1) (a2 : inI x2) (h : iAll c T ν) : gp (g_X11_lies x1 x2) (g_X12_lies x1 x2) T ν (fun r T' ν' => inI r ∧ aft c T ν r T' ν') := by
  obtain ⟨m1, m2, m3, m4, m5, m6⟩ := h.room hc
  have hB := h.2.2.2.2.2.2.1
  have hK := h.2.2.2.2.2.2.2.1
  have hLs := h.2.2.2.2.2.2.2.2.1
  have hR := h.2.2.2.2.2.2.2.2.2
  refine (s_X11_lies m1 hLs (by omega) m4 a1 a2).mono (fun r T1 ν1 q => ?_)
  obtain ⟨q1, q2, q3, q4, q5, q6, q7⟩ := q
  have fx : ∀ b : Int, b ≤ 104 → b ∉ ([-5100, -5101] : List Int) → ν1 b = ν b := fun b hb hn => q6 b (by omega) hn (by omega)
  have hT0 : T1.2 0 = T.2 0 := q2.2 0 (by omega)
  refine ⟨⟨fx 0 (by decide) (by decide), hT0⟩, (s_X12_lies a1 a2).mono (fun r2 ν2 w => ?_)⟩
  obtain ⟨w1, f2⟩ := w
  have fx2 : ∀ b : Int, b ≤ 104 → b ∉ ([-5100, -5101, 95, -6902] : List Int) → ν2 b = ν b := fun b hb hn => by
    simp only [List.mem_cons, List.not_mem_nil, or_false, not_or] at hn
    rw [f2 b (by simp only [List.mem_cons, List.not_mem_nil, or_false, not_or]; omega), fx b hb (by simp only [List.mem_cons, List.not_mem_nil, or_false, not_or]; omega)]
  have dy : ∀ b : Int, 104 < b → b ≤ T.1 → b ≠ ν (-5100) 0 → ν2 b = ν b := fun b b1 b2 b3 => by
    rw [f2 b (by simp only [List.mem_cons, List.not_mem_nil, or_false, not_or]; omega), q6 b b2 (by simp only [List.mem_cons, List.not_mem_nil, or_false, not_or]; omega) (fun g => b3 g.2)]
  have e : ∀ b ∈ aFx ++ aBs ++ [40, -4600, -4601, -4602, -207, -3902, 92, 0], ν2 b = ν b := fun b hb => fx2 b ((by decide : ∀ b ∈ aFx ++ aBs ++ [40, -4600, -4601, -4602, -207, -3902, 92, 0], b ≤ 104) b hb) ((by decide : ∀ b ∈ aFx ++ aBs ++ [40, -4600, -4601, -4602, -207, -3902, 92, 0], b ∉ ([-5100, -5101, 95, -6902] : List Int)) b hb)
  have l0 : ν2 (-5100) = ν1 (-5100) := f2 _ (by decide)
  have l1 : ν2 (-5101) = ν1 (-5101) := f2 _ (by decide)
  have hls := iLs_eq (T := T1) (ν := ν1) (gext.refl _) l0 l1 (fun g => f2 _ (by simp only [List.mem_cons, List.not_mem_nil, or_false, not_or]; omega)) q4
  have hrO : ∀ b, rO ν2 b ↔ rO ν b := fun b => by unfold rO; rw [e 40 (by decide)]
  have hwO : ∀ b, wkO ν2 b ↔ wkO ν b := fun b => by unfold wkO; rw [e (-4600) (by decide), e (-4601) (by decide), e (-4602) (by decide)]
  have hb1 : iBs T1 ν2 := iBs_eq q2 (fun b hb => e b (List.mem_append_left _ (List.mem_append_right _ hb))) (by rw [e 92 (by decide)]; exact hB.2.2.2.2.2.2.1) (fun b hb => by
    have g := rO_104 hB hb
    exact dy b g.1 g.2.1 (tag_no h (Or.inl hb))) hB
  have ew : wks3 ν2 = wks3 ν := by unfold wks3; rw [e (-4600) (by decide)]
  have eb : bsP ν2 = bsP ν := by unfold bsP; rw [e 40 (by decide)]
  refine ⟨by rw [w1, q1], ?_, iAll_T h q2 (by omega) (fun b hb => e b (List.mem_append_left _ (List.mem_append_left _ hb))) hb1 (iWk_eq q2 (e _ (by decide)) (e _ (by decide)) (e _ (by decide)) hK) hls.1 (fun b hb hw => hR.2.1 b ((hrO b).mp hb) ((hwO b).mp hw)) (by rw [e _ (by decide)]) (by rw [e _ (by decide)]; omega) (by rw [hls.2, ew, eb]; omega), e 0 (by decide), hT0⟩
  rw [q1]
  by_cases ok : (1 ≤ x1 ∧ x1 ≤ 7) ∧ (0 ≤ x2 ∧ x2 ≤ 2)
  · rw [if_pos ok]
    have := lf_24 (y := cv (x2 + 2).toNat x1.toNat 0) (cv_lt _ _ _ (by omega))
    unfold inI; omega
  · rw [if_neg ok]; unfold inI; omega
theorem bsH_of (hc : c ≤ 600) (h : iAll c T ν) : bsH T ν := by
  obtain ⟨m1, m2, m3, m4, m5, m6⟩ := h.room hc
  have hR := h.2.2.2.2.2.2.2.2.2
  have r3 := hR.2.2.1
  have r4 := hR.2.2.2.1
  exact ⟨h.1, h.2.2.2.2.2.2.1, m1, m2, m5, by omega, by omega⟩
/-- behind a call of the best table's, both sides -/
theorem bs_fin (hc : c ≤ 600) (h : iAll c T ν) {T1 : gT} {ν1 ν2 : gN} (q : bsQ T ν T1 ν1) (f2 : gfr wBr ν1 ν2) (h92 : ν2 92 0 = 0) : iAll (c + 1) T1 ν2 ∧ (ν2 0 = ν 0 ∧ T1.2 0 = T.2 0) := by
  obtain ⟨m1, m2, m3, m4, m5, m6⟩ := h.room hc
  have hB := h.2.2.2.2.2.2.1
  have hK := h.2.2.2.2.2.2.2.1
  have hLs := h.2.2.2.2.2.2.2.2.1
  have hR := h.2.2.2.2.2.2.2.2.2
  obtain ⟨q2, q3, q4, q5, q6, q7, q8⟩ := q
  have hT0 : T1.2 0 = T.2 0 := q2.2 0 (by omega)
  have fx : ∀ b : Int, b ≤ 104 → b ∉ wBs → ν1 b = ν b := fun b hb hn => q6 b (by omega) hn (fun g => by have := (rO_104 hB g).1; omega)
  have e1 : ∀ b ∈ aFx ++ [-4600, -4601, -4602, -5100, -5101, -207, 0], ν1 b = ν b := fun b hb => fx b ((by decide : ∀ b ∈ aFx ++ [-4600, -4601, -4602, -5100, -5101, -207, 0], b ≤ 104) b hb) ((by decide : ∀ b ∈ aFx ++ [-4600, -4601, -4602, -5100, -5101, -207, 0], b ∉ wBs) b hb)
  have e : ∀ b ∈ aFx ++ [-4600, -4601, -4602, -5100, -5101, -207, 0], ν2 b = ν b := fun b hb => by
    rw [f2 b ((by decide : ∀ b ∈ aFx ++ [-4600, -4601, -4602, -5100, -5101, -207, 0], b ∉ wBr) b hb)]; exact e1 b hb
  have d2 : ∀ b : Int, 104 < b → ν2 b = ν1 b := gfr_dy f2 (by decide)
  have hb1 : iBs T1 ν2 := iBs_eq (T := T1) (ν := ν1) (gext.refl _) (fun b hb => f2 b ((by decide : ∀ b ∈ aBs, b ∉ wBr) b hb)) h92 (fun b hb => d2 b (rO_104 q4 hb).1) q4
  have hls := iLs_eq q2 (e (-5100) (by decide)) (e (-5101) (by decide)) (fun g => by
    rw [d2 _ g]
    exact q6 _ (by have := hLs.1.2.1; omega) (fun hw => by
      have := (by decide : ∀ b ∈ wBs, b ≤ 104) _ hw
      omega) (fun hr => tag_no h (Or.inl hr) rfl)) hLs
  have hrO : ∀ b, rO ν2 b ↔ rO ν1 b := fun b => by unfold rO; rw [f2 40 (by decide)]
  have hwO : ∀ b, wkO ν2 b ↔ wkO ν b := fun b => by unfold wkO; rw [e (-4600) (by decide), e (-4601) (by decide), e (-4602) (by decide)]
  have ew : wks3 ν2 = wks3 ν := by unfold wks3; rw [e (-4600) (by decide)]
  have eb : bsP ν2 = bsP ν1 := by unfold bsP; rw [f2 40 (by decide)]
  refine ⟨iAll_T h q2 (by omega) (fun b hb => e b (List.mem_append_left _ hb)) hb1 (iWk_eq q2 (e _ (by decide)) (e _ (by decide)) (e _ (by decide)) hK) hls.1 (fun b hb hw => ?_) (by rw [e _ (by decide)]) (by rw [f2 _ (by decide)]; exact q8) (by rw [hls.2, ew, eb]; omega), e 0 (by decide), hT0⟩
  have hw' := (hwO b).mp hw
  rcases q7 b ((hrO b).mp hb) with g | g
  · exact hR.2.1 b g hw'
  · have := (wkO_in hR.1 hK hw').1; omega
/-- what the reference finds of the stair behind the class's call -/
theorem bs_mid (hc : c ≤ 600) (h : iAll c T ν) {T1 : gT} {ν1 : gN} (q : bsQ T ν T1 ν1) : iSt ν1 ∧ ν1 92 0 = 0 ∧ (∀ law, pR ν1 law = pR ν law) ∧ ν1 (-200) 0 = ν (-200) 0 ∧ allP ν1 = allP ν ∧ (ν1 0 = ν 0 ∧ T1.2 0 = T.2 0) := by
  obtain ⟨m1, m2, m3, m4, m5, m6⟩ := h.room hc
  have hB := h.2.2.2.2.2.2.1
  obtain ⟨q2, q3, q4, q5, q6, q7, q8⟩ := q
  have fx : ∀ b : Int, b ≤ 104 → b ∉ wBs → ν1 b = ν b := fun b hb hn => q6 b (by omega) hn (fun g => by have := (rO_104 hB g).1; omega)
  have e1 : ∀ b ∈ aSt ++ [0], ν1 b = ν b := fun b hb => fx b ((by decide : ∀ b ∈ aSt ++ [0], b ≤ 104) b hb) ((by decide : ∀ b ∈ aSt ++ [0], b ∉ wBs) b hb)
  refine ⟨iSt_eq (fun b hb => e1 b (List.mem_append_left _ hb)) h.1, q4.2.2.2.2.2.2.1, fun law => ?_, by rw [e1 _ (by decide)], ?_, e1 0 (by decide), q2.2 0 (by omega)⟩
  · unfold pR
    rw [e1 (-6903) (by decide), e1 (-6908) (by decide), e1 (-6909) (by decide), e1 71 (by decide), e1 73 (by decide), e1 74 (by decide)]
  · unfold allP; rw [e1 4 (by decide)]
theorem vA_in {p : bP} (hok : okP p) {low high k : Int} (h0 : 0 ≤ low) (h1 : low ≤ high) (h40 : high ≤ 40) : lgR (vA (bv p low high k)) := by
  have := bv_90 hok (low := low) (high := high) (c := k) h0 h1 h40
  unfold vA lgR
  split <;> omega
theorem p_best {x : Int} (hc : c ≤ 600) (a : inI x) (h : iAll c T ν) : gp (g_X11_best x) (g_X12_best x) T ν (fun r T' ν' => lgR r ∧ aft c T ν r T' ν') := by
  refine (s_X11_best a (bsH_of hc h)).mono (fun r T1 ν1 q => ?_)
  obtain ⟨q1, q⟩ := q
  obtain ⟨g1, g2, g3, g4, g5, g6⟩ := bs_mid hc h q
  refine ⟨g6, (s_X12_best a g1 g2).mono (fun r2 ν2 w => ?_)⟩
  obtain ⟨w1, f2, w92⟩ := w
  rw [g3, g4, g5] at w1
  have hst := h.1.1
  refine ⟨by rw [w1, q1], ?_, bs_fin hc h q f2 w92⟩
  rw [q1]
  by_cases ok : 0 ≤ x ∧ x ≤ 3
  · rw [if_pos ok]; exact vA_in (pR_ok h.1.rOK x) (by decide) (by omega) (by omega)
  · rw [if_neg ok]; unfold lgR; omega
theorem p_next {x1 x2 x3 x4 x5 : Int} (hc : c ≤ 600) (a1 : inI x1) (a2 : inI x2) (a3 : inI x3) (a4 : inI x4) (a5 : inI x5) (h : iAll c T ν) : gp (g_X11_next x1 x2 x3 x4 x5) (g_X12_next x1 x2 x3 x4 x5) T ν (fun r T' ν' => lgR r ∧ aft c T ν r T' ν') := by
  refine (s_X11_next a1 a2 a3 a4 a5 (bsH_of hc h)).mono (fun r T1 ν1 q => ?_)
  obtain ⟨q1, q⟩ := q
  obtain ⟨g1, g2, g3, g4, g5, g6⟩ := bs_mid hc h q
  refine ⟨g6, (s_X12_next a1 a2 a3 a4 a5 g1 g2).mono (fun r2 ν2 w => ?_)⟩
  obtain ⟨w1, f2, w92⟩ := w
  have eo : okN ν1 x1 x2 x3 x4 x5 ↔ okN ν x1 x2 x3 x4 x5 := by unfold okN; rw [g4]
  rw [g3, eo] at w1
  have hst := h.1.1
  refine ⟨?_, ?_, bs_fin hc h q f2 w92⟩
  · rcases q1 with ⟨y1, y2⟩ | ⟨y1, y2⟩
    · rcases w1 with ⟨z1, z2⟩ | ⟨z1, z2⟩
      · rw [y2, z2]
      · exact absurd y1 z1
    · rcases w1 with ⟨z1, z2⟩ | ⟨z1, z2⟩
      · exact absurd z1 y1
      · rw [y2, z2]
  · rcases q1 with ⟨y1, y2⟩ | ⟨y1, y2⟩
    · obtain ⟨o1, o2, o3, o4, o5, o6⟩ := y1
      have hok := pR_ok h.1.rOK x1
      rw [y2]
      unfold nxA
      have hk := bf_kind hok (low := x2) (high := x3) (c := x4) o2 (by omega) o3
      by_cases c0 : x5 = 0
      · rw [if_pos c0]; exact vA_in hok o2 o3 (by omega)
      · rw [if_neg c0]
        split <;> (unfold lgR; omega)
    · rw [y2]; unfold lgR; omega
theorem p_edge {x1 x2 : Int} (hc : c ≤ 600) (a1 : inI x1) (a2 : inI x2) (h : iAll c T ν) : gp (g_X11_edge x1 x2) (g_X12_edge x1 x2) T ν (fun r T' ν' => inI r ∧ aft c T ν r T' ν') := by
  refine (s_X11_edge a1 a2 (bsH_of hc h)).mono (fun r T1 ν1 q => ?_)
  obtain ⟨q1, q⟩ := q
  obtain ⟨g1, g2, g3, g4, g5, g6⟩ := bs_mid hc h q
  refine ⟨g6, (s_X12_edge a1 a2 g1 g2).mono (fun r2 ν2 w => ?_)⟩
  obtain ⟨w1, f2, w92⟩ := w
  have ee : ∀ z, edA ν1 x1 x2 z ↔ edA ν x1 x2 z := fun z => by unfold edA; rw [g3, g4, g5]
  by_cases ok : (0 ≤ x1 ∧ x1 < 3) ∧ (0 ≤ x2 ∧ x2 ≤ 3)
  · rw [if_pos ok] at q1 w1
    rw [ee] at w1
    have hok := pR_ok h.1.rOK x2
    have hpr := (hok.2.2.2.1 x1 (by unfold isK; omega)).2
    refine ⟨?_, ?_, bs_fin hc h q f2 w92⟩
    · unfold edA at q1 w1
      split at q1
      · next d =>
        rw [if_pos d] at w1
        split at q1
        · next d2 => rw [if_pos d2] at w1; rw [q1, w1]
        · next d2 => rw [if_neg d2] at w1; exact edR_one w1 q1
      · next d => rw [if_neg d] at w1; rw [q1, w1]
    · unfold edA at q1
      unfold inI
      split at q1
      · split at q1
        · omega
        · unfold edR at q1
          rcases q1 with g | g
          · have := g.1; have := g.2.1; omega
          · have := g.1; omega
      · omega
  · rw [if_neg ok] at q1 w1
    exact ⟨by rw [q1, w1], by rw [q1]; unfold inI; omega, bs_fin hc h q f2 w92⟩
end
