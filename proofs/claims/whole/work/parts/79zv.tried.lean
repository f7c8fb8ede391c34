/-! TRIAL: tried, fall -/
theorem trR_D {D D' S : gN} {t : Int} (e3 : D' 3 = D 3) (e5 : D' 5 = D 5) (e0 : D' (-200) = D (-200)) (e4 : D' (-204) = D (-204)) (e6 : D' (-205) = D (-205)) : ∀ (f : Nat) (P R : gN), trR D' S t f P R → trR D S t f P R := by
  have hfal : ∀ (P : gN) (k s : Int), fal D' t P k s = fal D t P k s := fun P k s => by unfold fal brk; rw [e3, e5, e4, e6]
  have hbad : ∀ (P : gN) (k v : Int), bad D' P k v ↔ bad D P k v := fun P k v => by unfold bad; rw [e0]
  intro f
  induction f with
  | zero => intro P R h; exact h
  | succ f ih =>
    intro P R h
    unfold trR at h ⊢
    rcases h with h | ⟨a1, l, a2, a3⟩
    · exact Or.inl h
    refine Or.inr ⟨a1, l, a2, ?_⟩
    rcases a3 with h | ⟨b1, b2⟩
    · exact Or.inl h
    refine Or.inr ⟨b1, ?_⟩
    rcases b2 with h | ⟨v, c1, c2⟩
    · exact Or.inl h
    refine Or.inr ⟨v, c1, ?_⟩
    rcases c2 with h | ⟨d1, d2⟩
    · exact Or.inl h
    refine Or.inr ⟨d1, ?_⟩
    rcases d2 with ⟨g1, g2⟩ | ⟨g1, g2⟩
    · exact Or.inl ⟨(hbad _ _ _).mp g1, g2⟩
    · rw [hfal] at g2
      exact Or.inr ⟨fun g => g1 ((hbad _ _ _).mpr g), ih _ _ g2⟩
theorem rnQ_D {D D' S R : gN} {t : Int} (e3 : D' 3 = D 3) (e4' : D' 4 = D 4) (e5 : D' 5 = D 5) (e0 : D' (-200) = D (-200)) (e4 : D' (-204) = D (-204)) (e6 : D' (-205) = D (-205)) (h : rnQ D' S t R) : rnQ D S t R := by
  obtain ⟨⟨f, h1⟩, h2⟩ := h
  have : tP0 D' = tP0 D := by unfold tP0; rw [e0, e4']
  rw [this] at h1
  exact ⟨⟨f, trR_D e3 e5 e0 e4 e6 f _ _ h1⟩, h2⟩
theorem rnQ_one {D S R R' : gN} {t : Int} (h : rnQ D S t R) (h' : rnQ D S t R') : R = R' := TR_one h.1 h'.1
def aPl : List Int := [-104, -105, -106, -811, -812, -6911, -6912, -6918, -6919, -6920, 76, 77, 78, 79, 80, 81, 82, 83, -1800, -1801, 19, 20, 21, 22, -2300, -2301, 24, 25, 26, 27]
def wTy : List Int := -6902 :: (wTr ++ wTq)
section
variable {T : gT} {ν ν' : gN}
theorem pl_rows {pl : Int} (hpl : pl = 18 ∨ pl = 23) : ∀ r : Int, r = -(100 * pl + 0) ∨ r = -(100 * pl + 1) ∨ r = pl + 1 ∨ r = pl + 2 ∨ r = pl + 3 ∨ r = pl + 4 → r ∈ aPl := by
  intro r hr
  rcases hpl with e | e <;> subst e <;> rcases hr with g | g | g | g | g | g <;> subst g <;> decide
theorem iPl_eq (e : ∀ b ∈ aPl, ν' b = ν b) (h : iPl ν) : iPl ν' := by
  obtain ⟨p1, ⟨p2, p3, p4, p4'⟩, ⟨p5, p6⟩, p7, p8, S, p9, p10, p11⟩ := h
  have hpl : ν (-104) 0 = 18 ∨ ν (-104) 0 = 23 := by omega
  unfold iPl
  rw [e (-104) (by decide), e (-105) (by decide), e (-6911) (by decide), e (-6912) (by decide), e (-811) (by decide), e (-812) (by decide), e (-6918) (by decide), e (-106) (by decide), e (-6919) (by decide), e (-6920) (by decide), e _ (pl_rows hpl _ (by simp)), e _ (pl_rows hpl (-(100 * ν (-104) 0 + 1)) (by simp))]
  refine ⟨p1, ⟨p2, p3, p4, p4'⟩, ⟨p5, p6⟩, p7, p8, S, pRw_fr p9 (fun r hr => e r (pl_rows hpl r hr)), p10, rowsP_fr p11 p10 (fun j _ => ⟨by rw [e 76 (by decide)], by rw [e 77 (by decide)], by rw [e 78 (by decide)]⟩) (fun r hr j _ => ?_)⟩
  rcases hr with g | g | g | g | g <;> subst g <;> rw [e _ (by decide)]
/-- both run; what both leave says the same -/
theorem run2 {t : Int} {S : gN} {Q : Int → gN → Prop} {k : Int → gM Int} (hp : rowsP ν S ∧ ν (-6919) 0 = S 7 0 ∧ pL S) (hs : iSt ν) (ht : 0 ≤ t ∧ t ≤ 40) {R : gN} (hR : rnQ ν S t R) {τ : gN} (hf : gfr wTy ν τ) (hk : ∀ (r : Int) (τ' : gN), gfr wTq τ τ' → tQ τ' R → τ' (-6942) 0 = R 9 0 → τ' (-6946) 0 = R 10 0 → gv (k r) T τ' Q) : gv (gbd (g_X12_runs t) k) T τ Q := by
  have hP : rowsP τ S := rowsP_fr hp.1 hp.2.2 (hf.lo3 (by decide)) (hf.lo5 (by decide))
  have h19 : τ (-6919) 0 = S 7 0 := by rw [hf _ (by decide)]; exact hp.2.1
  have hD : iSt τ := iSt_eq (hf.eq (by decide)) hs
  refine gv_call (s_runs hP h19 hp.2.2 hD ht) (fun r τ' hh => ?_)
  obtain ⟨g1, R', g2, g3, g4, g5⟩ := hh
  have := rnQ_one hR (rnQ_D (hf 3 (by decide)) (hf 4 (by decide)) (hf 5 (by decide)) (hf (-200) (by decide)) (hf (-204) (by decide)) (hf (-205) (by decide)) g2)
  subst this
  exact hk r τ' g1 g3 g4 g5
theorem iPl.pl (h : iPl ν) : (ν (-104) 0 = 18 ∨ ν (-104) 0 = 23) ∧ ∃ S, pRw ν (ν (-104) 0) S ∧ (rowsP ν S ∧ ν (-6919) 0 = S 7 0 ∧ pL S) := by
  obtain ⟨p1, _, _, p7, p8, S, p9, p10, p11⟩ := h
  exact ⟨by omega, S, p9, p11, by rw [p7]; exact p9.1, p10⟩
theorem c_tried {x1 x2 : Int} (a1 : -2147483648 ≤ x1 ∧ x1 ≤ 2147483647) (a2 : -2147483648 ≤ x2 ∧ x2 ≤ 2147483647) (hs : iSt ν) (hp : iPl ν) : gb (g_X11_tried x1 x2) (g_X12_tried x1 x2) T ν (fun r ν' => (-1000000000000 ≤ r ∧ r ≤ 1000000000000) ∧ gfr wTy ν ν') := by
  have hst := hs.1
  have e03 : ν (-6903) 0 = ν (-200) 0 := hs.2.2.2.2.2.1
  have h106 := hp.2.2.1
  obtain ⟨hpl, S, hR, hPP⟩ := hp.pl
  have hW : gfr wTy ν (gup ν (-6902) 0 0) := (gfr.refl _ _).up (by decide)
  unfold gb g_X11_tried g_X11_tried_30
  refine gv_get (gv_cz (by omega) (fun c => gv_rd (d_X8_hasStrength a1 hst) ?_) (fun c => gv_ret ?_))
  · by_cases c1 : 0 ≤ x1 ∧ x1 ≤ ν (-200) 0
    · rw [if_pos c1]
      refine gv_cz (by decide) (fun g => absurd g (by decide)) (fun _ => gv_rd (d_X11_isWithin a2 (by decide)) ?_)
      by_cases c2 : 0 ≤ x2 ∧ x2 ≤ 4
      · rw [if_pos c2]
        refine gv_cz (by decide) (fun _ => gv_get (gv_call (s_run hpl hR hPP.2.2 hs (by omega)) (fun _ ν1 h1 => ?_))) (fun g => absurd (by decide) g)
        obtain ⟨f1, R, hQ, hC, v2, v3⟩ := h1
        have hq := hQ.2.1
        have q1 := hq.1
        have q5 := hq.2.2.2.2.1
        have q6 := hq.2.2.2.2.2.1
        have q9 := hQ.2.2.1
        have q10 := hQ.2.2.2
        unfold bdd mxv at q10
        -- the reference's part
        have href : ∀ w : Int, w = (if x2 = 0 then R 9 0 else if x2 = 1 then R 3 0 else if x2 = 2 then R 5 0 else if x2 = 3 then R 4 0 else R 10 0) → gv (g_X12_tried x1 x2) T ν1 (fun r2 ν2 => r2 = w ∧ (-1000000000000 ≤ w ∧ w ≤ 1000000000000) ∧ gfr wTy ν ν2) := fun w hw => by
          have hf2 : gfr wTy ν (gup ν1 (-6902) 0 0) := (f1.mono (by decide)).up (by decide)
          have hwb : -1000000000000 ≤ w ∧ w ≤ 1000000000000 := by rw [hw]; repeat' split
                                                                  all_goals omega
          unfold g_X12_tried g_X12_tried_33
          refine gv_put (gv_get ?_)
          generalize gup ν1 (-6902) 0 0 = τ at hf2 ⊢
          rw [hf2 (-6918) (by decide), h106.1]
          refine gv_cz (by omega) (fun _ => gv_rd (d_X12_isStrength a1 (by rw [hf2 _ (by decide)]; omega)) ?_) (fun g => absurd c g)
          rw [hf2 (-6903) (by decide), e03, if_pos c1]
          refine gv_cz (by decide) (fun g => absurd g (by decide)) (fun _ => gv_rd (d_X12_isIn a2 (by decide) (by decide)) ?_)
          rw [if_pos c2]
          refine gv_cz (by decide) (fun _ => run2 hPP hs (by omega) hQ hf2 (fun _ τ' g1 g2 g3 g4 => ?_)) (fun g => absurd (by decide) g)
          have hfin : gfr wTy ν τ' := hf2.trans (g1.mono (by decide))
          obtain ⟨_, _, _, _, _, _, t43, t44, t45, _⟩ := g2
          refine gv_cz a2 (fun d0 => gv_cb ⟨⟨by omega, by omega⟩, ⟨by omega, by omega⟩⟩ (fun d1 => gv_cb ⟨⟨by omega, by omega⟩, ⟨by omega, by omega⟩⟩ (fun d2 => gv_cb ⟨⟨by omega, by omega⟩, ⟨by omega, by omega⟩⟩ (fun d3 => gv_get (gv_ret ⟨?_, hwb, hfin⟩)) (fun d3 => gv_get (gv_ret ⟨?_, hwb, hfin⟩))) (fun d2 => gv_get (gv_ck ?_ (gv_ret ⟨?_, hwb, hfin⟩)))) (fun d1 => gv_get (gv_ck ?_ (gv_ret ⟨?_, hwb, hfin⟩)))) (fun d0 => gv_get (gv_ck ?_ (gv_ret ⟨?_, hwb, hfin⟩)))
          · rw [g4, hw, if_neg d0, if_neg d1, if_neg d2, if_neg d3]
          · rw [t45, hw, if_neg d0, if_neg d1, if_neg d2, if_pos (by omega)]
          · rw [t44]; unfold hf_inI; omega
          · rw [t44, hw, if_neg d0, if_neg d1, if_pos (by omega)]
          · rw [t43]; unfold hf_inI; omega
          · rw [t43, hw, if_neg d0, if_pos (by omega)]
          · rw [g3]; unfold hf_inI; omega
          · rw [g3, hw, if_pos (by omega)]
        refine gv_ck (by unfold hf_inI; omega) (gv_it (fun d0 => gv_get ?_) (fun d0 => gv_it (fun d1 => gv_get ?_) (fun d1 => gv_it (fun d2 => gv_get ?_) (fun d2 => gv_it (fun d3 => gv_get ?_) (fun d3 => gv_get ?_)))))
        · rw [v2]; exact gv_ck (by unfold hf_inI; omega) (gv_ret (href _ (by rw [if_pos d0])))
        · rw [hC.2.2.2.2.1]; exact gv_ck (by unfold hf_inI; omega) (gv_ret (href _ (by rw [if_neg d0, if_pos d1])))
        · rw [hC.2.2.2.2.2.2.1]; exact gv_ck (by unfold hf_inI; omega) (gv_ret (href _ (by rw [if_neg d0, if_neg d1, if_pos d2])))
        · rw [hC.2.2.2.2.2.1]; exact gv_ck (by unfold hf_inI; omega) (gv_ret (href _ (by rw [if_neg d0, if_neg d1, if_neg d2, if_pos d3])))
        · rw [v3]; exact gv_ret (href _ (by rw [if_neg d0, if_neg d1, if_neg d2, if_neg d3]))
      · rw [if_neg c2]
        refine gv_cz (by decide) (fun g => absurd rfl g) (fun _ => gv_ret ?_)
        unfold g_X12_tried g_X12_tried_33
        refine gv_put (gv_get ?_)
        generalize gup ν (-6902) 0 0 = τ at hW ⊢
        rw [hW (-6918) (by decide), h106.1]
        refine gv_cz (by omega) (fun _ => gv_rd (d_X12_isStrength a1 (by rw [hW _ (by decide)]; omega)) ?_) (fun g => absurd c g)
        rw [hW (-6903) (by decide), e03, if_pos c1]
        refine gv_cz (by decide) (fun g => absurd g (by decide)) (fun _ => gv_rd (d_X12_isIn a2 (by decide) (by decide)) ?_)
        rw [if_neg c2]
        exact gv_cz (by decide) (fun g => absurd rfl g) (fun _ => gv_ret ⟨rfl, by decide, hW⟩)
    · rw [if_neg c1]
      refine gv_cz (by decide) (fun _ => gv_ret ?_) (fun g => absurd rfl g)
      unfold g_X12_tried g_X12_tried_33
      refine gv_put (gv_get ?_)
      generalize gup ν (-6902) 0 0 = τ at hW ⊢
      rw [hW (-6918) (by decide), h106.1]
      refine gv_cz (by omega) (fun _ => gv_rd (d_X12_isStrength a1 (by rw [hW _ (by decide)]; omega)) ?_) (fun g => absurd c g)
      rw [hW (-6903) (by decide), e03, if_neg c1]
      exact gv_cz (by decide) (fun _ => gv_ret ⟨rfl, by decide, hW⟩) (fun g => absurd rfl g)
  · unfold g_X12_tried
    refine gv_put (gv_get ?_)
    generalize gup ν (-6902) 0 0 = τ at hW ⊢
    rw [hW (-6918) (by decide), h106.1]
    exact gv_cz (by omega) (fun g => absurd g c) (fun _ => gv_ret ⟨rfl, by decide, hW⟩)
theorem c_fall {x1 x2 x3 : Int} (a1 : -2147483648 ≤ x1 ∧ x1 ≤ 2147483647) (a2 : -2147483648 ≤ x2 ∧ x2 ≤ 2147483647) (a3 : -2147483648 ≤ x3 ∧ x3 ≤ 2147483647) (hs : iSt ν) (hp : iPl ν) : gb (g_X11_fall x1 x2 x3) (g_X12_fall x1 x2 x3) T ν (fun r ν' => (-2 ≤ r ∧ r ≤ 1000) ∧ gfr wTy ν ν') := by
  have hst := hs.1
  have e03 : ν (-6903) 0 = ν (-200) 0 := hs.2.2.2.2.2.1
  have h106 := hp.2.2.1
  obtain ⟨hpl, S, hR, hPP⟩ := hp.pl
  have hW : gfr wTy ν (gup ν (-6902) 0 0) := (gfr.refl _ _).up (by decide)
  -- the reference's answer where it runs
  have href : ¬ ν (-106) 0 = 0 → (0 ≤ x1 ∧ x1 ≤ ν (-200) 0) → (0 ≤ x3 ∧ x3 ≤ 2) → ∀ (ν1 R : gN), gfr wTr ν ν1 → rnQ ν S x1 R → ∀ w : Int, (w = if 0 ≤ x2 ∧ x2 < R 3 0 then (if x3 = 0 then R 6 x2 else if x3 = 1 then R 7 x2 else R 8 x2) else -1) → (-2 ≤ w ∧ w ≤ 1000) → gv (g_X12_fall x1 x2 x3) T ν1 (fun r2 ν2 => r2 = w ∧ (-2 ≤ w ∧ w ≤ 1000) ∧ gfr wTy ν ν2) := fun c c1 c3 ν1 R f1 hQ w hw hwb => by
    have hf2 : gfr wTy ν (gup ν1 (-6902) 0 0) := (f1.mono (by decide)).up (by decide)
    have q1 := hQ.2.1.1
    unfold g_X12_fall
    refine gv_put (gv_get ?_)
    generalize gup ν1 (-6902) 0 0 = τ at hf2 ⊢
    rw [hf2 (-6918) (by decide), h106.1]
    refine gv_cz (by omega) (fun _ => gv_rd (d_X12_isStrength a1 (by rw [hf2 _ (by decide)]; omega)) ?_) (fun g => absurd c g)
    rw [hf2 (-6903) (by decide), e03, if_pos c1]
    refine gv_cz (by decide) (fun g => absurd g (by decide)) (fun _ => gv_rd (d_X12_isIn a3 (by decide) (by decide)) ?_)
    rw [if_pos c3]
    refine gv_cz (by decide) (fun _ => run2 hPP hs (by omega) hQ hf2 (fun _ τ' g1 g2 g3 g4 => ?_)) (fun g => absurd (by decide) g)
    have hfin : gfr wTy ν τ' := hf2.trans (g1.mono (by decide))
    obtain ⟨_, _, _, _, _, _, t43, _, _, t88⟩ := g2
    refine gv_cz a2 (fun d => gv_ret ⟨by rw [hw, if_neg (by omega)], hwb, hfin⟩) (fun d => gv_get ?_)
    rw [t43]
    refine gv_cb ⟨⟨by omega, by omega⟩, ⟨by omega, by omega⟩⟩ (fun d2 => gv_cz a3 (fun e0 => gv_cb ⟨⟨by omega, by omega⟩, ⟨by omega, by omega⟩⟩ (fun e1 => gv_al (by omega) (gv_ret ⟨?_, hwb, hfin⟩)) (fun e1 => gv_al (by omega) (gv_ret ⟨?_, hwb, hfin⟩))) (fun e0 => gv_al (by omega) (gv_ret ⟨?_, hwb, hfin⟩))) (fun d2 => gv_ret ⟨by rw [hw, if_neg (by omega)], hwb, hfin⟩)
    · rw [hw, if_pos (by omega), if_neg e0, if_neg e1]; exact (t88 x2 (by omega) d2).2.2
    · rw [hw, if_pos (by omega), if_neg e0, if_pos (by omega)]; exact (t88 x2 (by omega) d2).2.1
    · rw [hw, if_pos (by omega), if_pos (by omega)]; exact (t88 x2 (by omega) d2).1
  unfold gb g_X11_fall
  refine gv_get (gv_cz (by omega) (fun c => gv_rd (d_X8_hasStrength a1 hst) ?_) (fun c => gv_ret ?_))
  · by_cases c1 : 0 ≤ x1 ∧ x1 ≤ ν (-200) 0
    · rw [if_pos c1]
      refine gv_cz (by decide) (fun g => absurd g (by decide)) (fun _ => gv_cz a2 (fun cn => gv_ret ?_) (fun cn => gv_rd (d_X11_isWithin a3 (by decide)) ?_))
      · -- the class does not run, the reference may
        by_cases c3 : 0 ≤ x3 ∧ x3 ≤ 2
        · obtain ⟨r0, τ0, _, _, R, hQ, _⟩ := s_run (T := T) (t := x1) hpl hR hPP.2.2 hs (by omega)
          exact href c c1 c3 ν R (gfr.refl _ _) hQ (-1) (by rw [if_neg (by omega)]) (by decide)
        · unfold g_X12_fall
          refine gv_put (gv_get ?_)
          generalize gup ν (-6902) 0 0 = τ at hW ⊢
          rw [hW (-6918) (by decide), h106.1]
          refine gv_cz (by omega) (fun _ => gv_rd (d_X12_isStrength a1 (by rw [hW _ (by decide)]; omega)) ?_) (fun g => absurd c g)
          rw [hW (-6903) (by decide), e03, if_pos c1]
          refine gv_cz (by decide) (fun g => absurd g (by decide)) (fun _ => gv_rd (d_X12_isIn a3 (by decide) (by decide)) ?_)
          rw [if_neg c3]
          exact gv_cz (by decide) (fun g => absurd rfl g) (fun _ => gv_ret ⟨rfl, by decide, hW⟩)
      · by_cases c3 : 0 ≤ x3 ∧ x3 ≤ 2
        · rw [if_pos c3]
          refine gv_cz (by decide) (fun _ => gv_get (gv_call (s_run hpl hR hPP.2.2 hs (by omega)) (fun _ ν1 h1 => ?_))) (fun g => absurd (by decide) g)
          obtain ⟨f1, R, hQ, hC, v2, v3⟩ := h1
          have hq := hQ.2.1
          have q1 := hq.1
          have q7 := hq.2.2.2.2.2.2
          unfold g_X1_recall_o29
          refine gv_call (Q' := fun w ν' => ν' = ν1 ∧ (-2 ≤ w ∧ w ≤ 1000) ∧ w = if 0 ≤ x2 ∧ x2 < R 3 0 then (if x3 = 0 then R 6 x2 else if x3 = 1 then R 7 x2 else R 8 x2) else -1) ?_ (fun w ν' hw => gv_ret ?_)
          · refine gv_cz a2 (fun d => by omega) (fun d => gv_get ?_)
            rw [hC.2.2.2.2.1]
            refine gv_cb ⟨⟨by omega, by omega⟩, ⟨by omega, by omega⟩⟩ (fun d2 => ?_) (fun d2 => gv_ret ⟨rfl, by decide, by rw [if_neg (by omega)]⟩)
            have t := hC.2.2.2.2.2.2.2 x2 (by omega) d2
            have t7 := q7 x2 (by omega) d2
            refine gv_cz a3 (fun e0 => gv_cb ⟨⟨by omega, by omega⟩, ⟨by omega, by omega⟩⟩ (fun e1 => gv_al (by omega) (gv_ret ⟨rfl, ?_, ?_⟩)) (fun e1 => gv_al (by omega) (gv_ret ⟨rfl, ?_, ?_⟩))) (fun e0 => gv_al (by omega) (gv_ret ⟨rfl, ?_, ?_⟩))
            · rw [t.2.2]; omega
            · rw [if_pos (by omega), if_neg e0, if_neg e1]; exact t.2.2
            · rw [t.2.1]; omega
            · rw [if_pos (by omega), if_neg e0, if_pos (by omega)]; exact t.2.1
            · rw [t.1]; omega
            · rw [if_pos (by omega), if_pos (by omega)]; exact t.1
          · obtain ⟨rfl, hwb, hw⟩ := hw
            exact href c c1 c3 ν' R f1 hQ w hw hwb
        · rw [if_neg c3]
          refine gv_cz (by decide) (fun g => absurd rfl g) (fun _ => gv_ret ?_)
          unfold g_X12_fall
          refine gv_put (gv_get ?_)
          generalize gup ν (-6902) 0 0 = τ at hW ⊢
          rw [hW (-6918) (by decide), h106.1]
          refine gv_cz (by omega) (fun _ => gv_rd (d_X12_isStrength a1 (by rw [hW _ (by decide)]; omega)) ?_) (fun g => absurd c g)
          rw [hW (-6903) (by decide), e03, if_pos c1]
          refine gv_cz (by decide) (fun g => absurd g (by decide)) (fun _ => gv_rd (d_X12_isIn a3 (by decide) (by decide)) ?_)
          rw [if_neg c3]
          exact gv_cz (by decide) (fun g => absurd rfl g) (fun _ => gv_ret ⟨rfl, by decide, hW⟩)
    · rw [if_neg c1]
      refine gv_cz (by decide) (fun _ => gv_ret ?_) (fun g => absurd rfl g)
      unfold g_X12_fall
      refine gv_put (gv_get ?_)
      generalize gup ν (-6902) 0 0 = τ at hW ⊢
      rw [hW (-6918) (by decide), h106.1]
      refine gv_cz (by omega) (fun _ => gv_rd (d_X12_isStrength a1 (by rw [hW _ (by decide)]; omega)) ?_) (fun g => absurd c g)
      rw [hW (-6903) (by decide), e03, if_neg c1]
      exact gv_cz (by decide) (fun _ => gv_ret ⟨rfl, by decide, hW⟩) (fun g => absurd rfl g)
  · unfold g_X12_fall
    refine gv_put (gv_get ?_)
    generalize gup ν (-6902) 0 0 = τ at hW ⊢
    rw [hW (-6918) (by decide), h106.1]
    exact gv_cz (by omega) (fun g => absurd g c) (fun _ => gv_ret ⟨rfl, by decide, hW⟩)
end
