/-! ALL THAT HOLDS: calls that change the stair, and those of the tables -/
section
variable {c : Nat} {T : gT} {ν : gN}
theorem iAll_ch {ν' : gN} {W : List Int} (h : iAll c T ν) (hf : gfr W ν ν') (hW : ∀ x ∈ W, x ≤ 104) (t1 : iSt ν') (t5 : iNt ν') (t6 : iHd ν') (h207 : ν' (-207) 0 = ν (-207) 0 + 1) (hd : ∀ b ∈ aTp ++ [75] ++ aPl ++ [40, 41, -3902, -3903, -3904, -3906, 44, 92, -4600, -4601, -4602, -5100, -5101], b ∉ W) : iAll (c + 1) T ν' := by
  obtain ⟨h1, h2, h3, h4, h5, h6, h7, h8, h9, r1, r2, r3, r4, r5, r6⟩ := h
  have e : ∀ b ∈ aTp ++ [75] ++ aPl ++ [40, 41, -3902, -3903, -3904, -3906, 44, 92, -4600, -4601, -4602, -5100, -5101], ν' b = ν b := hf.eq hd
  have ea : ∀ L : List Int, (∀ b ∈ L, b ∈ aTp ++ [75] ++ aPl ++ [40, 41, -3902, -3903, -3904, -3906, 44, 92, -4600, -4601, -4602, -5100, -5101]) → ∀ b ∈ L, ν' b = ν b := fun L hL b hb => e b (hL b hb)
  have dy := gfr_dy hf hW
  have hls := iLs_eq (gext.refl _) (e (-5100) (by decide)) (e (-5101) (by decide)) (fun g => dy _ g) h9
  refine ⟨t1, iTp_eq (ea aTp (by decide)) h2, iWd_eq (e 75 (by decide)) h3, iPl_eq (ea aPl (by decide)) h4, t5, t6, iBs_ch (ea _ (by decide)) h207 h7, iWk_eq (gext.refl _) (e _ (by decide)) (e _ (by decide)) (e _ (by decide)) h8, hls.1, r1, ?_, by rw [h207]; omega, by rw [e _ (by decide)]; omega, by omega, ?_⟩
  · unfold rO wkO
    rw [e 40 (by decide), e (-4600) (by decide), e (-4601) (by decide), e (-4602) (by decide)]
    exact r2
  · rw [hls.2]
    unfold wks3 bsP
    rw [e 40 (by decide), e (-4600) (by decide)]
    unfold wks3 bsP at r6
    omega
theorem iHd_off {ν' : gN} (h1 : ν' (-114) 0 = 0) (h2 : ν' (-6963) 0 = 0) : iHd ν' := Or.inl ⟨h1, h2⟩
theorem p_stair {x : Int} (a : inI x) (h : iAll c T ν) : gp (g_X11_stair x) (g_X12_stair x) T ν (fun r T' ν' => inI r ∧ aft c T ν r T' ν') := by
  refine gv.w ((s_X11_stair a).mono (fun r ν1 q => ?_))
  by_cases ok : 1 ≤ x ∧ x ≤ 40
  · rw [if_pos ok] at q
    obtain ⟨rfl, f1, q1, q2, q3, q4, q5⟩ := q
    refine ⟨⟨f1 0 (by decide), rfl⟩, (s_X12_stair a).mono (fun r2 ν2 w => ?_)⟩
    obtain ⟨f2, w⟩ := w
    rw [if_pos ok] at w
    obtain ⟨rfl, w1, w2, w3, w4⟩ := w
    have hf : gfr [-200, 6, -207, -5300, -114, -6902, -6903, 74, -6957, -6963] ν ν2 := (f1.mono (by decide)).trans (f2.mono (by decide))
    have v200 : ν2 (-200) 0 = x := by rw [f2 _ (by decide)]; exact q1
    have v207 : ν2 (-207) 0 = ν (-207) 0 + 1 := by rw [f2 _ (by decide)]; exact q2
    have v5300 : ν2 (-5300) 0 = 0 := by rw [f2 _ (by decide)]; exact q3
    have v114 : ν2 (-114) 0 = 0 := by rw [f2 _ (by decide)]; exact q4
    have v6 : ∀ k : Int, 0 ≤ k → k < 41 → ν2 6 k = 1 := fun k b1 b2 => by rw [f2 6 (by decide)]; exact q5 k b1 b2
    have h1 := h.1
    have h5 := h.2.2.2.2.1
    refine ⟨rfl, by unfold inI; omega, iAll_ch h hf (by decide) ?_ ?_ (iHd_off v114 w3) v207 (by decide), hf 0 (by decide), rfl⟩
    · obtain ⟨s1, s2, s3, s4, s5, s6, s7, s8, s9, s10⟩ := h1
      unfold iSt
      rw [v200, w1, hf 3 (by decide), hf 4 (by decide), hf 5 (by decide), hf (-204) (by decide), hf (-205) (by decide), hf 71 (by decide), hf 72 (by decide), hf 73 (by decide), hf (-6908) (by decide), hf (-6909) (by decide)]
      exact ⟨ok, s2, fun t b1 b2 => by rw [v6 t b1 b2]; decide, s4, s5, rfl, s7, fun t b1 b2 => by rw [v6 t b1 b2]; exact w4 t b1 b2, s9, s10⟩
    · obtain ⟨n1, n2, n3, n4, n5⟩ := h5
      unfold iNt nC
      rw [v5300, w2, hf 54 (by decide)]
      exact ⟨⟨by decide, by decide, fun i b1 b2 => by omega⟩, rfl, n3, fun i b1 b2 => by omega, fun i b1 b2 => by omega⟩
  · rw [if_neg ok] at q
    obtain ⟨rfl, rfl⟩ := q
    refine ⟨⟨rfl, rfl⟩, (s_X12_stair a).mono (fun r2 ν2 w => ?_)⟩
    obtain ⟨f2, w⟩ := w
    rw [if_neg ok] at w
    exact ⟨w.1, by unfold inI; omega, iAll_fr h w.2 (by decide) (by decide), w.2 0 (by decide), rfl⟩
theorem p_kind {x1 x2 x3 x4 : Int} (a1 : inI x1) (a2 : inI x2) (a3 : inI x3) (a4 : inI x4) (h : iAll c T ν) : gp (g_X11_kind x1 x2 x3 x4) (g_X12_kind x1 x2 x3 x4) T ν (fun r T' ν' => inI r ∧ aft c T ν r T' ν') := by
  refine gv.w ((s_X11_kind a1 a2 a3 a4).mono (fun r ν1 q => ?_))
  rcases q with ⟨ok, rfl, rfl⟩ | ⟨ok, rfl, rfl⟩
  · refine ⟨⟨by simp (disch := decide) only [gup_ne], rfl⟩, (s_X12_kind a1 a2 a3 a4).mono (fun r2 ν2 w => ?_)⟩
    rcases w with ⟨_, rfl, hν⟩ | ⟨no, _⟩
    · have hf : gfr [3, 4, 5, -207, -114, -6902, 71, 72, 73, -6963] ν ν2 := by
        rw [hν]
        exact (((((((((((gfr.refl _ _).up (by decide)).up (by decide)).up (by decide)).up (by decide)).up (by decide)).up (by decide)).up (by decide)).up (by decide)).up (by decide)).up (by decide))
      have v207 : ν2 (-207) 0 = ν (-207) 0 + 1 := by rw [hν]; simp (disch := decide) only [gup_ne, gup_at]
      have v114 : ν2 (-114) 0 = 0 := by rw [hν]; simp (disch := decide) only [gup_ne, gup_at]
      have v63 : ν2 (-6963) 0 = 0 := by rw [hν, gup_at]
      have v3 : ∀ k : Int, ν2 3 k = if k = x1 then x2 else ν 3 k := fun k => by rw [hν]; simp (disch := decide) only [gup_ne, gup_same]
      have v4 : ∀ k : Int, ν2 4 k = if k = x1 then x3 else ν 4 k := fun k => by rw [hν]; simp (disch := decide) only [gup_ne, gup_same]
      have v5 : ∀ k : Int, ν2 5 k = if k = x1 then x4 else ν 5 k := fun k => by rw [hν]; simp (disch := decide) only [gup_ne, gup_same]
      have v71 : ∀ k : Int, ν2 71 k = if k = x1 then x2 else ν 71 k := fun k => by rw [hν]; simp (disch := decide) only [gup_ne, gup_same]
      have v72 : ∀ k : Int, ν2 72 k = if k = x1 then x3 else ν 72 k := fun k => by rw [hν]; simp (disch := decide) only [gup_ne, gup_same]
      have v73 : ∀ k : Int, ν2 73 k = if k = x1 then x4 else ν 73 k := fun k => by rw [hν]; simp (disch := decide) only [gup_ne, gup_same]
      refine ⟨rfl, by unfold inI; omega, iAll_ch h hf (by decide) ?_ (iNt_eq (hf.eq (by decide)) h.2.2.2.2.1) (iHd_off v114 v63) v207 (by decide), hf 0 (by decide), rfl⟩
      obtain ⟨s1, s2, s3, s4, s5, s6, s7, s8, s9, s10⟩ := h.1
      obtain ⟨o1, o2, o3, o4⟩ := ok
      unfold iSt
      rw [hf (-200) (by decide), hf 6 (by decide), hf (-204) (by decide), hf (-205) (by decide), hf (-6903) (by decide), hf 74 (by decide), hf (-6908) (by decide), hf (-6909) (by decide)]
      refine ⟨s1, fun k b1 b2 => ?_, s3, s4, s5, s6, fun k b1 b2 => ?_, s8, s9, s10⟩
      · rw [v3, v4, v5]
        by_cases e : k = x1
        · simp only [if_pos e]; exact ⟨o2, o3, o4⟩
        · simp only [if_neg e]; exact s2 k b1 b2
      · rw [v3, v4, v5, v71, v72, v73]
        by_cases e : k = x1
        · simp only [if_pos e, and_self]
        · simp only [if_neg e]; exact s7 k b1 b2
    · exact absurd ok no
  · refine ⟨⟨rfl, rfl⟩, (s_X12_kind a1 a2 a3 a4).mono (fun r2 ν2 w => ?_)⟩
    rcases w with ⟨yes, _⟩ | ⟨_, rfl, hν⟩
    · exact absurd yes ok
    · have hf : gfr [-6902] ν1 ν2 := by rw [hν]; exact (gfr.refl _ _).up (by decide)
      exact ⟨rfl, by unfold inI; omega, iAll_fr h hf (by decide) (by decide), hf 0 (by decide), rfl⟩
theorem p_cost {x1 x2 : Int} (a1 : inI x1) (a2 : inI x2) (h : iAll c T ν) : gp (g_X11_cost x1 x2) (g_X12_cost x1 x2) T ν (fun r T' ν' => inI r ∧ aft c T ν r T' ν') := by
  refine gv.w ((s_X11_cost a1 a2).mono (fun r ν1 q => ?_))
  rcases q with ⟨ok, rfl, rfl⟩ | ⟨ok, rfl, rfl⟩
  · refine ⟨⟨by simp (disch := decide) only [gup_ne], rfl⟩, (s_X12_cost a1 a2).mono (fun r2 ν2 w => ?_)⟩
    rcases w with ⟨_, rfl, hν⟩ | ⟨no, _⟩
    · have hf : gfr [-204, -205, -207, -6902, -6908, -6909] ν ν2 := by
        rw [hν]
        exact (((((((gfr.refl _ _).up (by decide)).up (by decide)).up (by decide)).up (by decide)).up (by decide)).up (by decide))
      have v207 : ν2 (-207) 0 = ν (-207) 0 + 1 := by rw [hν]; simp (disch := decide) only [gup_ne, gup_at]
      have v204 : ν2 (-204) 0 = x1 := by rw [hν]; simp (disch := decide) only [gup_ne, gup_at]
      have v205 : ν2 (-205) 0 = x2 := by rw [hν]; simp (disch := decide) only [gup_ne, gup_at]
      have v08 : ν2 (-6908) 0 = x1 := by rw [hν]; simp (disch := decide) only [gup_ne, gup_at]
      have v09 : ν2 (-6909) 0 = x2 := by rw [hν, gup_at]
      refine ⟨rfl, by unfold inI; omega, iAll_ch h hf (by decide) ?_ (iNt_eq (hf.eq (by decide)) h.2.2.2.2.1) (iHd_eq (hf.eq (by decide)) h.2.2.2.2.2.1) v207 (by decide), hf 0 (by decide), rfl⟩
      obtain ⟨s1, s2, s3, s4, s5, s6, s7, s8, s9, s10⟩ := h.1
      obtain ⟨o1, o2⟩ := ok
      unfold iSt
      rw [hf (-200) (by decide), hf 3 (by decide), hf 4 (by decide), hf 5 (by decide), hf 6 (by decide), hf 71 (by decide), hf 72 (by decide), hf 73 (by decide), v204, v205, hf (-6903) (by decide), hf 74 (by decide), v08, v09]
      exact ⟨s1, s2, s3, o1, o2, s6, s7, s8, rfl, rfl⟩
    · exact absurd ok no
  · refine ⟨⟨rfl, rfl⟩, (s_X12_cost a1 a2).mono (fun r2 ν2 w => ?_)⟩
    rcases w with ⟨yes, _⟩ | ⟨_, rfl, hν⟩
    · exact absurd yes ok
    · have hf : gfr [-6902] ν1 ν2 := by rw [hν]; exact (gfr.refl _ _).up (by decide)
      exact ⟨rfl, by unfold inI; omega, iAll_fr h hf (by decide) (by decide), hf 0 (by decide), rfl⟩
theorem p_weight {x1 x2 : Int} (a1 : inI x1) (a2 : inI x2) (h : iAll c T ν) : gp (g_X11_weight x1 x2) (g_X12_weight x1 x2) T ν (fun r T' ν' => inI r ∧ aft c T ν r T' ν') := by
  have hst := h.1.1
  have e03 : ν (-6903) 0 = ν (-200) 0 := h.1.2.2.2.2.2.1
  refine gv.w ((s_X11_weight a1 a2 hst).mono (fun r ν1 q => ?_))
  rcases q with ⟨ok, rfl, rfl⟩ | ⟨ok, rfl, rfl⟩
  · have e1 : gup (gup ν 6 x1 x2) (-207) 0 (ν (-207) 0 + 1) (-6903) 0 = ν (-200) 0 := by simp (disch := decide) only [gup_ne]; exact e03
    refine ⟨⟨by simp (disch := decide) only [gup_ne], rfl⟩, (s_X12_weight a1 a2 (by rw [e1]; exact hst)).mono (fun r2 ν2 w => ?_)⟩
    rw [e1] at w
    rcases w with ⟨_, rfl, hν⟩ | ⟨no, _⟩
    · have hf : gfr [6, -207, -6902, 74] ν ν2 := by
        rw [hν]
        exact (((((gfr.refl _ _).up (by decide)).up (by decide)).up (by decide)).up (by decide))
      have v207 : ν2 (-207) 0 = ν (-207) 0 + 1 := by rw [hν]; simp (disch := decide) only [gup_ne, gup_at]
      have v6 : ∀ k : Int, ν2 6 k = if k = x1 then x2 else ν 6 k := fun k => by rw [hν]; simp (disch := decide) only [gup_ne, gup_same]
      have v74 : ∀ k : Int, ν2 74 k = if k = x1 then x2 else ν 74 k := fun k => by rw [hν]; simp (disch := decide) only [gup_ne, gup_same]
      refine ⟨rfl, by unfold inI; omega, iAll_ch h hf (by decide) ?_ (iNt_eq (hf.eq (by decide)) h.2.2.2.2.1) (iHd_eq (hf.eq (by decide)) h.2.2.2.2.2.1) v207 (by decide), hf 0 (by decide), rfl⟩
      obtain ⟨s1, s2, s3, s4, s5, s6, s7, s8, s9, s10⟩ := h.1
      obtain ⟨o1, o2⟩ := ok
      unfold iSt
      rw [hf (-200) (by decide), hf 3 (by decide), hf 4 (by decide), hf 5 (by decide), hf 71 (by decide), hf 72 (by decide), hf 73 (by decide), hf (-204) (by decide), hf (-205) (by decide), hf (-6903) (by decide), hf (-6908) (by decide), hf (-6909) (by decide)]
      refine ⟨s1, s2, fun t b1 b2 => ?_, s4, s5, s6, s7, fun t b1 b2 => ?_, s9, s10⟩
      · rw [v6]
        split
        · exact o2
        · exact s3 t b1 b2
      · rw [v6, v74]
        by_cases e : t = x1
        · simp only [if_pos e]
        · simp only [if_neg e]; exact s8 t b1 b2
    · exact absurd ok no
  · refine ⟨⟨rfl, rfl⟩, (s_X12_weight a1 a2 (by rw [e03]; exact hst)).mono (fun r2 ν2 w => ?_)⟩
    rw [e03] at w
    rcases w with ⟨yes, _⟩ | ⟨_, rfl, hν⟩
    · exact absurd yes ok
    · have hf : gfr [-6902] ν1 ν2 := by rw [hν]; exact (gfr.refl _ _).up (by decide)
      exact ⟨rfl, by unfold inI; omega, iAll_fr h hf (by decide) (by decide), hf 0 (by decide), rfl⟩
theorem p_likely {x : Int} (a : inI x) (h : iAll c T ν) : gp (g_X11_likely x) (g_X12_likely x) T ν (fun r T' ν' => inI r ∧ aft c T ν r T' ν') := by
  have hst := h.1.1
  have e03 : ν (-6903) 0 = ν (-200) 0 := h.1.2.2.2.2.2.1
  refine gv.w ((d_X11_likely a hst).mono (fun r ν1 q => ?_))
  obtain ⟨rfl, rfl⟩ := q
  refine ⟨⟨rfl, rfl⟩, (s_X12_likely a (by rw [e03]; exact hst)).mono (fun r2 ν2 w => ?_)⟩
  obtain ⟨rfl, hν⟩ := w
  have hf : gfr [-6902] ν1 ν2 := by rw [hν]; exact (gfr.refl _ _).up (by decide)
  refine ⟨?_, ?_, iAll_fr h hf (by decide) (by decide), hf 0 (by decide), rfl⟩
  · rw [e03]
    by_cases ok : 0 ≤ x ∧ x ≤ ν1 (-200) 0
    · rw [if_pos ok, if_pos ok]; exact h.1.2.2.2.2.2.2.2.1 x ok.1 (by omega)
    · rw [if_neg ok, if_neg ok]
  · by_cases ok : 0 ≤ x ∧ x ≤ ν1 (-200) 0
    · rw [if_pos ok]; have := h.1.2.2.1 x ok.1 (by omega); unfold inI; omega
    · rw [if_neg ok]; unfold inI; omega
theorem p_rounds {x1 x2 : Int} (a1 : inI x1) (a2 : inI x2) (h : iAll c T ν) : gp (g_X11_rounds x1 x2) (g_X12_rounds x1 x2) T ν (fun r T' ν' => inI r ∧ aft c T ν r T' ν') := by
  have hst := h.1.1
  have e03 : ν (-6903) 0 = ν (-200) 0 := h.1.2.2.2.2.2.1
  refine gv.w ((s_X11_rounds a1 a2 hst).mono (fun r ν1 q => ?_))
  obtain ⟨q1, f1⟩ := q
  have e1 : ν1 (-6903) 0 = ν (-200) 0 := by rw [f1 _ (by decide)]; exact e03
  refine ⟨⟨f1 0 (by decide), rfl⟩, (s_X12_rounds a1 a2 (by rw [e1]; exact hst)).mono (fun r2 ν2 w => ?_)⟩
  obtain ⟨w1, f2⟩ := w
  rw [e1] at w1
  have hf : gfr [50, 94, -6902] ν ν2 := (f1.mono (by decide)).trans (f2.mono (by decide))
  by_cases ok : (1 ≤ x1 ∧ x1 ≤ 9) ∧ (1 ≤ x2 ∧ x2 ≤ 4)
  · rw [if_pos ok] at q1 w1
    have hr0 := q1.1.1
    exact ⟨rkR_one w1.1 q1.1, by unfold inI; omega, iAll_fr h hf (by decide) (by decide), hf 0 (by decide), rfl⟩
  · rw [if_neg ok] at q1 w1
    exact ⟨by rw [q1, w1], by rw [q1]; unfold inI; omega, iAll_fr h hf (by decide) (by decide), hf 0 (by decide), rfl⟩
end
