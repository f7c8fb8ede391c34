/-! BEST: prepared, and asked -/
section
variable {T : gT} {ν : gN}
theorem s_X0_prepare_116 {x3 : Int} (hx3 : x3 = 0 ∨ x3 = 1) (ht : 1 ≤ ν (-3905) 0 ∧ ν (-3905) 0 ≤ 40) (h44 : ν 44 0 = 0) : gv (g_X0_prepare_116 x3 0) T ν (fun _ ν' => gfr [42, 43, 44] ν ν' ∧ (∀ k : Int, 0 ≤ k → k < 3 → ν' 42 k = ν 3 k ∧ ν' 43 k = if x3 = 0 then 0 else ν 5 k) ∧ ∀ t : Int, 0 ≤ t → t ≤ ν (-3905) 0 + 1 → ν' 44 t = gsum (ν 6) t.toNat) := by
  unfold g_X0_prepare_116
  refine gv_fx (fun (x : Int) τ => (0 ≤ x ∧ x ≤ 3) ∧ gfr [42, 43] ν τ ∧ ∀ k : Int, 0 ≤ k → k < x → τ 42 k = ν 3 k ∧ τ 43 k = if x3 = 0 then 0 else ν 5 k) (fun x _ => (10 - x).toNat) ⟨by omega, gfr.refl _ _, fun k a b => by omega⟩ (by omega) ?_
  intro rec x τ hI hrec
  obtain ⟨hx, hf, hk⟩ := hI
  unfold gB_X0_prepare_116
  refine gv_cb ⟨⟨by omega, by omega⟩, ⟨by omega, by omega⟩⟩ (fun c => ?_) (fun c => gv_al ⟨by omega, by omega⟩ (gv_as ⟨by omega, by omega⟩ ?_))
  · have ex : x = 3 := by omega
    subst ex
    unfold g_X0_prepare_167
    refine gv_fx (fun (x : Int) τ' => (0 ≤ x ∧ x ≤ ν (-3905) 0 + 1) ∧ gfr [44] τ τ' ∧ ∀ t : Int, 0 ≤ t → t ≤ x → τ' 44 t = gsum (ν 6) t.toNat) (fun x _ => (50 - x).toNat) ⟨by omega, gfr.refl _ _, fun t t1 t2 => by rw [show t = 0 by omega, hf 44 (by decide), h44]; rfl⟩ (by omega) ?_
    intro rec2 x τ' hI2 hrec2
    obtain ⟨hx2, hf2, hw⟩ := hI2
    unfold gB_X0_prepare_167
    refine gv_get ?_
    rw [hf2 (-3905) (by decide), hf (-3905) (by decide)]
    refine gv_cb ⟨⟨by omega, by omega⟩, ⟨by omega, by omega⟩⟩ (fun c2 => gv_ret ⟨fun b hb => ?_, fun k a b => ?_, fun t t1 t2 => hw t t1 (by omega)⟩) (fun c2 => gv_al ⟨by omega, by omega⟩ (gv_al ⟨by omega, by omega⟩ ?_))
    · simp only [List.mem_cons, List.not_mem_nil, or_false, not_or] at hb
      rw [hf2 b (by simp only [List.mem_cons, List.not_mem_nil, or_false]; omega), hf b (by simp only [List.mem_cons, List.not_mem_nil, or_false]; omega)]
    · rw [hf2 42 (by decide), hf2 43 (by decide)]; exact hk k a b
    · rw [hw x (by omega) (Int.le_refl _), hf2 6 (by decide), hf 6 (by decide)]
      refine gv_as ⟨by omega, by omega⟩ (gv_let (hrec2 _ _ ⟨by omega, hf2.up (by decide), fun t t1 t2 => ?_⟩ (by omega)))
      rw [gup_same]
      by_cases e : t = x + 1
      · rw [if_pos e, e, show (x + 1).toNat = x.toNat + 1 by omega]
        show _ = gsum (ν 6) x.toNat + ν 6 (x.toNat : Int)
        rw [show ((x.toNat : Nat) : Int) = x by omega]
      · rw [if_neg e]; exact hw t t1 (by omega)
  · rw [hf 3 (by decide)]
    have h157 : ∀ v : Int, v = (if x3 = 0 then 0 else ν 5 x) → gv (g_X0_prepare_157 rec x3 x x v) T (gup τ 42 x (ν 3 x)) (fun _ ν' => gfr [42, 43, 44] ν ν' ∧ (∀ k : Int, 0 ≤ k → k < 3 → ν' 42 k = ν 3 k ∧ ν' 43 k = if x3 = 0 then 0 else ν 5 k) ∧ ∀ t : Int, 0 ≤ t → t ≤ ν (-3905) 0 + 1 → ν' 44 t = gsum (ν 6) t.toNat) := fun v hv => by
      unfold g_X0_prepare_157
      refine gv_as ⟨by omega, by omega⟩ (gv_let (hrec _ _ ⟨by omega, (hf.up (by decide)).up (by decide), fun k a b => ?_⟩ (by omega)))
      rw [gup_ne (by decide), gup_same, gup_same]
      by_cases e : k = x
      · rw [if_pos e, if_pos e, e]; exact ⟨rfl, hv⟩
      · rw [if_neg e, if_neg e, gup_ne (by decide)]; exact hk k a (by omega)
    refine gv_cz (by rcases hx3 with rfl | rfl <;> decide) (fun c2 => h157 0 (by rw [if_pos c2])) (fun c2 => gv_al ⟨by omega, by omega⟩ ?_)
    rw [gup_ne (by decide), hf 5 (by decide)]
    exact h157 _ (by rw [if_neg c2])
/-- the table of the best falls, as it stands -/
def iBs (T : gT) (ν : gN) : Prop := iBr T ν ∧ (-1 ≤ ν (-3903) 0 ∧ ν (-3903) 0 ≤ 3) ∧ (-1 ≤ ν (-3904) 0 ∧ ν (-3904) 0 ≤ ν (-207) 0) ∧ 0 ≤ ν (-3902) 0 ∧ (0 ≤ ν (-3906) 0 ∧ ν (-3906) 0 ≤ 1) ∧ ν 44 0 = 0 ∧ ν 92 0 = 0 ∧ (0 ≤ ν (-3903) 0 → ν (-3904) 0 = ν (-207) 0 → eqC ν (pR ν (ν (-3903) 0)) ∧ bsV T ν (pR ν (ν (-3903) 0)))
theorem iSt.rOK (h : iSt ν) : rOK ν := by
  obtain ⟨h1, h2, h3, h4, h5, h6, h7, h8, h9, h10⟩ := h
  refine ⟨by rw [h6]; exact h1, by rw [h9]; exact h4, by rw [h10]; exact h5, fun k a b => ?_, fun t a b => ?_⟩
  · obtain ⟨q1, q2, q3⟩ := h7 k a b
    rw [q1, q3]
    exact ⟨(h2 k a b).1, (h2 k a b).2.2⟩
  · rw [h8 t a b]; exact h3 t a b
def wPr : List Int := [-3902, -3903, -3904, -3905, -3906, -3907, -3908, 42, 43, 44]
theorem s_X0_prepare {law : Int} (hs : iSt ν) (h : iBs T ν) (hlaw : 0 ≤ law ∧ law ≤ 3) (hch : 0 ≤ ν (-207) 0 ∧ ν (-207) 0 ≤ 100000) (hage : ν (-3902) 0 ≤ 100000) : gv (g_X0_prepare law) T ν (fun _ ν' => gfr wPr ν ν' ∧ eqC ν' (pR ν law) ∧ bsV T ν' (pR ν law) ∧ iBr T ν' ∧ ν' (-3903) 0 = law ∧ ν' (-3904) 0 = ν (-207) 0 ∧ (0 ≤ ν' (-3906) 0 ∧ ν' (-3906) 0 ≤ 1) ∧ ν' 44 0 = 0 ∧ (0 ≤ ν' (-3902) 0 ∧ ν' (-3902) 0 ≤ ν (-3902) 0 + 1)) := by
  obtain ⟨b1, b2, b3, b4, b5, b6, b7, b8⟩ := h
  have htop := hs.1
  have h20 : gv (g_X0_prepare_20 law) T ν (fun _ ν' => gfr wPr ν ν' ∧ eqC ν' (pR ν law) ∧ bsV T ν' (pR ν law) ∧ iBr T ν' ∧ ν' (-3903) 0 = law ∧ ν' (-3904) 0 = ν (-207) 0 ∧ (0 ≤ ν' (-3906) 0 ∧ ν' (-3906) 0 ≤ 1) ∧ ν' 44 0 = 0 ∧ (0 ≤ ν' (-3902) 0 ∧ ν' (-3902) 0 ≤ ν (-3902) 0 + 1)) := by
    unfold g_X0_prepare_20
    refine gv_put (gv_get (gv_put (gv_get (gv_put (gv_get (gv_put ?_))))))
    rw [gup_ne (show (-207 : Int) ≠ -3903 by decide)]
    have ea : gup (gup ν (-3903) 0 law) (-3904) 0 (ν (-207) 0) (-3902) = ν (-3902) := by rw [gup_ne (by decide), gup_ne (by decide)]
    rw [ea]
    have et : gup (gup (gup ν (-3903) 0 law) (-3904) 0 (ν (-207) 0)) (-3902) 0 (ν (-3902) 0 + 1) (-200) = ν (-200) := by rw [gup_ne (by decide), gup_ne (by decide), gup_ne (by decide)]
    rw [et]
    generalize hτ : gup (gup (gup (gup ν (-3903) 0 law) (-3904) 0 (ν (-207) 0)) (-3902) 0 (ν (-3902) 0 + 1)) (-3905) 0 (ν (-200) 0) = τ
    have q0 : gfr [-3902, -3903, -3904, -3905] ν τ := by rw [← hτ]; exact ((((gfr.refl _ _).up (by decide)).up (by decide)).up (by decide)).up (by decide)
    have q1 : τ (-3903) 0 = law := by rw [← hτ]; simp (disch := decide) only [gup_ne, gup_at]
    have q2 : τ (-3904) 0 = ν (-207) 0 := by rw [← hτ]; simp (disch := decide) only [gup_ne, gup_at]
    have q3 : τ (-3902) 0 = ν (-3902) 0 + 1 := by rw [← hτ]; simp (disch := decide) only [gup_ne, gup_at]
    have q4 : τ (-3905) 0 = ν (-200) 0 := by rw [← hτ]; simp (disch := decide) only [gup_ne, gup_at]
    clear hτ ea et
    have h67 : ∀ s1 : Int, s1 = (if law = 1 ∨ law = 3 then 1 else 0) → gv (g_X0_prepare_67 law s1) T τ (fun _ ν' => gfr wPr ν ν' ∧ eqC ν' (pR ν law) ∧ bsV T ν' (pR ν law) ∧ iBr T ν' ∧ ν' (-3903) 0 = law ∧ ν' (-3904) 0 = ν (-207) 0 ∧ (0 ≤ ν' (-3906) 0 ∧ ν' (-3906) 0 ≤ 1) ∧ ν' 44 0 = 0 ∧ (0 ≤ ν' (-3902) 0 ∧ ν' (-3902) 0 ≤ ν (-3902) 0 + 1)) := fun s1 hs1 => by
      have hs01 : s1 = 0 ∨ s1 = 1 := by rw [hs1]; split <;> omega
      unfold g_X0_prepare_67
      refine gv_ck hs01 (gv_put (gv_ck ⟨⟨by omega, by omega⟩, ⟨by omega, by omega⟩⟩ (gv_let ?_)))
      generalize hw80 : (if law < 2 then (0 : Int) else 1) = w80
      have hw01 : w80 = 0 ∨ w80 = 1 := by rw [← hw80]; split <;> omega
      have hwl : w80 = 0 ↔ law < 2 := by rw [← hw80]; split <;> omega
      have h94 : ∀ fc : Int, fc = (if law < 2 then 1 else ν (-204) 0) → gv (g_X0_prepare_94 w80 fc) T (gup τ (-3906) 0 s1) (fun _ ν' => gfr wPr ν ν' ∧ eqC ν' (pR ν law) ∧ bsV T ν' (pR ν law) ∧ iBr T ν' ∧ ν' (-3903) 0 = law ∧ ν' (-3904) 0 = ν (-207) 0 ∧ (0 ≤ ν' (-3906) 0 ∧ ν' (-3906) 0 ≤ 1) ∧ ν' 44 0 = 0 ∧ (0 ≤ ν' (-3902) 0 ∧ ν' (-3902) 0 ≤ ν (-3902) 0 + 1)) := fun fc hfc => by
        unfold g_X0_prepare_94
        refine gv_put ?_
        have h110 : ∀ cc : Int, cc = (if law < 2 then 0 else ν (-205) 0) → gv (g_X0_prepare_110 w80 cc) T (gup (gup τ (-3906) 0 s1) (-3907) 0 fc) (fun _ ν' => gfr wPr ν ν' ∧ eqC ν' (pR ν law) ∧ bsV T ν' (pR ν law) ∧ iBr T ν' ∧ ν' (-3903) 0 = law ∧ ν' (-3904) 0 = ν (-207) 0 ∧ (0 ≤ ν' (-3906) 0 ∧ ν' (-3906) 0 ≤ 1) ∧ ν' 44 0 = 0 ∧ (0 ≤ ν' (-3902) 0 ∧ ν' (-3902) 0 ≤ ν (-3902) 0 + 1)) := fun cc hcc => by
          unfold g_X0_prepare_110
          refine gv_put ?_
          generalize hσ : gup (gup (gup τ (-3906) 0 s1) (-3907) 0 fc) (-3908) 0 cc = σ
          have r0 : gfr [-3902, -3903, -3904, -3905, -3906, -3907, -3908] ν σ := by rw [← hσ]; exact (((q0.mono (by decide)).up (by decide)).up (by decide)).up (by decide)
          have r1 : σ (-3903) 0 = law := by rw [← hσ]; simp (disch := decide) only [gup_ne]; exact q1
          have r2 : σ (-3904) 0 = ν (-207) 0 := by rw [← hσ]; simp (disch := decide) only [gup_ne]; exact q2
          have r3 : σ (-3902) 0 = ν (-3902) 0 + 1 := by rw [← hσ]; simp (disch := decide) only [gup_ne]; exact q3
          have r4 : σ (-3905) 0 = ν (-200) 0 := by rw [← hσ]; simp (disch := decide) only [gup_ne]; exact q4
          have r5 : σ (-3906) 0 = s1 := by rw [← hσ]; simp (disch := decide) only [gup_ne, gup_at]
          have r6 : σ (-3907) 0 = fc := by rw [← hσ]; simp (disch := decide) only [gup_ne, gup_at]
          have r7 : σ (-3908) 0 = cc := by rw [← hσ]; simp (disch := decide) only [gup_ne, gup_at]
          clear hσ
          refine (s_X0_prepare_116 hw01 (by rw [r4]; exact htop) (by rw [r0 44 (by decide)]; exact b6)).mono (fun r ν' h9 => ?_)
          obtain ⟨u0, u1, u2⟩ := h9
          have n40 : ν' 40 = ν 40 := by rw [u0 40 (by decide), r0 40 (by decide)]
          have n41 : ν' 41 = ν 41 := by rw [u0 41 (by decide), r0 41 (by decide)]
          have n02 : ν' (-3902) 0 = ν (-3902) 0 + 1 := by rw [u0 (-3902) (by decide)]; exact r3
          refine ⟨fun b hb => ?_, ⟨?_, ?_, ?_, ?_, fun k hk => ?_, fun t t1 t2 => ?_⟩, fun c c1 c2 hc => ?_, ⟨?_, ?_, fun c c1 c2 => ?_, ?_⟩, ?_, ?_, ?_, ?_, ?_⟩
          · unfold wPr at hb
            simp only [List.mem_cons, List.not_mem_nil, or_false, not_or] at hb
            rw [u0 b (by simp only [List.mem_cons, List.not_mem_nil, or_false]; omega), r0 b (by simp only [List.mem_cons, List.not_mem_nil, or_false]; omega)]
          · show decide (law = 1 ∨ law = 3) = true ↔ _
            rw [u0 (-3906) (by decide), r5, hs1, decide_eq_true_iff]
            by_cases cl : law = 1 ∨ law = 3
            · rw [if_pos cl]; exact ⟨fun _ => by decide, fun _ => cl⟩
            · rw [if_neg cl]; exact ⟨fun h => absurd h cl, fun h => absurd rfl h⟩
          · rw [u0 (-3905) (by decide), r4]; exact hs.2.2.2.2.2.1.symm
          · rw [u0 (-3907) (by decide), r6, hfc]
            show _ = (if law < 2 then (1 : Int) else ν (-6908) 0)
            rw [hs.2.2.2.2.2.2.2.2.1]
          · rw [u0 (-3908) (by decide), r7, hcc]
            show _ = (if law < 2 then (0 : Int) else ν (-6909) 0)
            rw [hs.2.2.2.2.2.2.2.2.2]
          · obtain ⟨v1, v2⟩ := u1 k (isK_in hk).1 (isK_in hk).2
            obtain ⟨w1, w2, w3⟩ := hs.2.2.2.2.2.2.1 k (isK_in hk).1 (isK_in hk).2
            refine ⟨by rw [v1, r0 3 (by decide)]; exact w1.symm, ?_⟩
            rw [v2, r0 5 (by decide)]
            show _ = (if law < 2 then (fun _ => (0 : Int)) else ν 73) k
            by_cases cl : law < 2
            · rw [if_pos (hwl.mpr cl), if_pos cl]
            · rw [if_neg (fun h => cl (hwl.mp h)), if_neg cl, w3]
          · have t3 : t ≤ ν (-200) 0 + 1 := by rw [← hs.2.2.2.2.2.1]; exact t2
            rw [u2 t t1 (by rw [r4]; exact t3), r0 6 (by decide)]
            show gsum (ν 6) t.toNat = gsum (ν 74) t.toNat
            exact (gsum_congr _ (fun i hi => hs.2.2.2.2.2.2.2.1 i (by omega) (by omega))).symm
          · rw [n41, n02] at hc
            have := (b1.2.2.1 c c1 c2).2
            omega
          · rw [n40]; exact b1.1
          · rw [n40]; exact b1.2.1
          · rw [n41, n02]; have := b1.2.2.1 c c1 c2; omega
          · rw [n02]; omega
          · rw [u0 (-3903) (by decide)]; exact r1
          · rw [u0 (-3904) (by decide)]; exact r2
          · rw [u0 (-3906) (by decide), r5]; omega
          · have := u2 0 (by omega) (by rw [r4]; omega)
            exact this
          · rw [n02]; omega
        refine gv_cz (by rcases hw01 with rfl | rfl <;> decide) (fun c2 => h110 0 (by rw [if_pos (hwl.mp c2)])) (fun c2 => gv_get ?_)
        rw [gup_ne (by decide), gup_ne (by decide), q0 (-205) (by decide)]
        exact h110 _ (by rw [if_neg (fun h => c2 (hwl.mpr h))])
      refine gv_cz (by rcases hw01 with rfl | rfl <;> decide) (fun c2 => h94 1 (by rw [if_pos (hwl.mp c2)])) (fun c2 => gv_get ?_)
      rw [gup_ne (by decide), q0 (-204) (by decide)]
      exact h94 _ (by rw [if_neg (fun h => c2 (hwl.mpr h))])
    refine gv_cb ⟨⟨by omega, by omega⟩, ⟨by omega, by omega⟩⟩ (fun c1 => h67 1 (by rw [if_pos (by omega)])) (fun c1 => gv_cb ⟨⟨by omega, by omega⟩, ⟨by omega, by omega⟩⟩ (fun c2 => h67 0 (by rw [if_neg (by omega)])) (fun c2 => h67 1 (by rw [if_pos (by omega)])))
  unfold g_X0_prepare
  refine gv_get (gv_cb ⟨⟨by omega, by omega⟩, ⟨by omega, by omega⟩⟩ (fun c1 => h20) (fun c1 => gv_get (gv_get (gv_cb ⟨⟨by omega, by omega⟩, ⟨by omega, by omega⟩⟩ (fun c2 => h20) (fun c2 => gv_ret ?_)))))
  have e1 : ν (-3903) 0 = law := by omega
  have e2 : ν (-3904) 0 = ν (-207) 0 := by omega
  have h9 := b8 (by omega) e2
  rw [e1] at h9
  exact ⟨gfr.refl _ _, h9.1, h9.2, b1, e1, e2, b5, b6, by omega⟩
/-- as it is told -/
def vA (v : Int) : Int := if v < 1000000000000 then v else -2
theorem s_X0_valueOf {p : bP} {low high code : Int} (hp : eqC ν p) (hok : okP p) (h06 : 0 ≤ ν (-3906) 0 ∧ ν (-3906) 0 ≤ 1) (h104 : 104 ≤ T.1) (hi : iBr T ν) (hv : bsV T ν p) (hcode : 0 ≤ code ∧ code < 125) (hc : T.1 + 125 ≤ hf_cc) (hs : gsl T + bsP ν ≤ hf_cs) (hl : 0 ≤ low ∧ low ≤ high ∧ high ≤ bTop p) : gw (g_X0_valueOf low high code) T ν (fun r T' ν' => r = vA (bv p low high code) ∧ ν' (-3916) 0 = (bf p low high code).2.1 ∧ ν' (-3917) 0 = (bf p low high code).2.2 ∧ (low < high → ν' (-3915) 0 = bcl (bv p low high code) ∧ ∀ c : Int, 0 ≤ c → c ≤ code → wit c code → ν' 41 c = ν' (-3902) 0) ∧ fuQ T ν p code T' ν' ∧ T'.1 ≤ T.1 + 125) := by
  have htop := hok.1
  have hb := bv_90 hok (low := low) (high := high) (c := code) hl.1 hl.2.1 (by omega)
  unfold g_X0_valueOf
  refine gw_cb ⟨⟨by omega, by omega⟩, ⟨by omega, by omega⟩⟩ (fun c1 => ?_) (fun c1 => ?_)
  · refine gw_call (s_X0_fillUpTo hp hok h06 h104 hi hv hcode hc hs) (fun _ T1 ν1 h1 => ?_)
    obtain ⟨⟨f1, f2, f3, f4, f5, f6⟩, hT1, hd⟩ := h1
    have nO : ∀ b : Int, b ≤ 104 → ¬ rO ν b := fun b hb ⟨c, c1, c2, c3, c4⟩ => by
      have := (hi.row ⟨c1, c2⟩ (by omega)).2.1
      omega
    have eR : ∀ b ∈ aBp, ν1 b = ν b := fun b hb => f5 b (by have := aBp_le b hb; omega) (aBp_no b hb) (nO b (aBp_le b hb))
    have hrow := f3 code hcode.1 hcode.2 (hd code hcode.1 (Int.le_refl _) (wit_refl _))
    have hless : lessR T1 ν1 p code low high := by
      intro k hk hpk
      have hu := pcs_un hk hk hcode.1 hpk
      have huv := un_val hk
      have := f3 (code - un k) hu.2.2.2 (by omega) (hd _ hu.2.2.2 (by omega) (wit_un hk hcode.1 hpk (wit_refl _)))
      exact ⟨this.1, fun b b1 b2 => this.2 low b hl.1 b1 (by omega)⟩
    refine gw_callv (s_X0_pick (eqC_fr eR hp) hok (by rw [eR (-3906) (by decide)]; exact h06) hcode ⟨hl.1, c1, hl.2.2⟩ hrow.1 (fun e e1 e2 => hrow.2 e high (by omega) e2 hl.2.2) hless) (fun r ν2 h2 => ?_)
    obtain ⟨q1, q2, q3, q4, q5⟩ := h2
    have hn2 : ∀ b : Int, b ∉ ([-3915, -3916, -3917] : List Int) → ν2 b = ν1 b := q2
    have far : ∀ b : Int, 104 < b → ν2 b = ν1 b := fun b hb => q2 b (by simp only [List.mem_cons, List.not_mem_nil, or_false]; omega)
    have n40 := hn2 40 (by decide)
    have n41 := hn2 41 (by decide)
    have n02 := hn2 (-3902) (by decide)
    have hfu : fuQ T ν p code T1 ν2 := by
      refine ⟨f1, ⟨by rw [n40]; exact f2.1, by rw [n40]; exact f2.2.1, by rw [n41, n02]; exact f2.2.2.1, by rw [n02]; exact f2.2.2.2⟩, fun c c3 c4 hc5 => ?_, by unfold bsP at f4 ⊢; rw [n40]; exact f4, fun b b1 b2 b3 => ?_, fun b ⟨c, c3, c4, c5, c6⟩ => f6 b ⟨c, c3, c4, by rw [← n40]; exact c5, c6⟩⟩
      · rw [n41, n02] at hc5
        obtain ⟨r1, r2⟩ := f3 c c3 c4 hc5
        unfold rowV
        rw [n40]
        exact ⟨r1, fun a b a1 a2 a3 => by rw [far _ r1.2.1]; exact r2 a b a1 a2 a3⟩
      · simp only [List.mem_cons, List.not_mem_nil, or_false, not_or] at b2
        rw [q2 b (by simp only [List.mem_cons, List.not_mem_nil, or_false]; omega)]
        exact f5 b b1 (by simp only [List.mem_cons, List.not_mem_nil, or_false]; omega) b3
    have hbc := bcl_in hb.1
    have hbc2 := hbc.2 hb.2
    have hfin : ∀ x : Int, x = vA (bv p low high code) → x = vA (bv p low high code) ∧ ν2 (-3916) 0 = (bf p low high code).2.1 ∧ ν2 (-3917) 0 = (bf p low high code).2.2 ∧ (low < high → ν2 (-3915) 0 = bcl (bv p low high code) ∧ ∀ c : Int, 0 ≤ c → c ≤ code → wit c code → ν2 41 c = ν2 (-3902) 0) ∧ fuQ T ν p code T1 ν2 ∧ T1.1 ≤ T.1 + 125 := fun x hx => ⟨hx, q4, q5, fun _ => ⟨by rw [q3, bf_fst p code hl.2.1], fun c a b w => by rw [n41, n02]; exact hd c a b w⟩, hfu, hT1⟩
    rw [q1]
    refine gw_cb ⟨⟨by omega, by omega⟩, ⟨by omega, by omega⟩⟩ (fun c2 => ?_) (fun c2 => gw_ret (hfin _ ?_))
    · refine gv.w (gv_ck ⟨by omega, by omega⟩ (gv_ret (hfin _ ?_)))
      unfold vA
      unfold bcl at c2 ⊢
      revert c2
      split
      · intro _; rfl
      · intro h; omega
    · unfold vA
      unfold bcl at c2
      revert c2
      split
      · intro h
        rcases hb.2 with g | g <;> omega
      · intro _; rfl
  · have el : low = high := by omega
    subst el
    unfold g_X0_forgetFirst
    have hbf : bf p low low code = (0, -1, -1) := by
      unfold bf
      show af _ _ _ _ (af _ _ _ _ (af _ _ _ _ (bfk p low low code 0) (low - low).toNat) (low - low).toNat) (low - low).toNat = _
      rw [show (low - low).toNat = 0 by omega]
      show (if low = low then (0 : Int) else 1000000000000, (-1 : Int), (-1 : Int)) = _
      rw [if_pos rfl]
    rw [hbf, bv_known p code (Int.le_refl _)]
    refine gv.w (gv_bd (gv_put (gv_put (gv_ret (gv_ret ⟨rfl, ?_, ?_, fun h => by omega, ?_, by omega⟩)))))
    · rw [gup_ne (by decide), gup_at]
    · rw [gup_at]
    · have n : ∀ b : Int, b ∉ ([-3916, -3917] : List Int) → gup (gup ν (-3916) 0 (-1)) (-3917) 0 (-1) b = ν b := ((gfr.refl _ _).up (by decide)).up (by decide)
      refine ⟨gext.refl _, ⟨by rw [n 40 (by decide)]; exact hi.1, by rw [n 40 (by decide)]; exact hi.2.1, by rw [n 41 (by decide), n (-3902) (by decide)]; exact hi.2.2.1, by rw [n (-3902) (by decide)]; exact hi.2.2.2⟩, fun c c3 c4 hc5 => ?_, by unfold bsP; rw [n 40 (by decide)]; exact Nat.le_refl _, fun b b1 b2 b3 => n b (by simp only [List.mem_cons, List.not_mem_nil, or_false, not_or] at b2 ⊢; omega), fun b ⟨c, c3, c4, c5, c6⟩ => Or.inl ⟨c, c3, c4, by rw [← n 40 (by decide)]; exact c5, c6⟩⟩
      rw [n 41 (by decide), n (-3902) (by decide)] at hc5
      obtain ⟨r1, r2⟩ := hv c c3 c4 hc5
      unfold rowV
      rw [n 40 (by decide)]
      have := r1.2.1
      exact ⟨r1, fun a b a1 a2 a3 => by rw [n _ (by simp only [List.mem_cons, List.not_mem_nil, or_false]; omega)]; exact r2 a b a1 a2 a3⟩
end
