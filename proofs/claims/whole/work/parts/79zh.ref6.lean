/-! PLAN: the reference's lines, whole -/
section
variable {T : gT} {τ τ1 S : gN} {b : Int → Int} {n p m : Int} {R : Int × Int × gN}
theorem tk_num (h : hT τ b n p) : ((sc b n p).1 = 2 ∧ τ (-6915) 0 = 2 ∧ (0 ≤ τ (-6916) 0 ∧ τ (-6916) 0 ≤ 9999) ∧ (sc b n p).2.1 = min 1000 (τ (-6916) 0)) ∨ (¬ (sc b n p).1 = 2 ∧ ¬ τ (-6915) 0 = 2 ∧ (0 ≤ τ (-6915) 0 ∧ τ (-6915) 0 ≤ 5)) := by
  have htk := h.2.1
  have hin := htk.in
  unfold tkR at htk
  rcases htk with g | g | g | g | g | g
  · exact Or.inr (by omega)
  · exact Or.inr (by omega)
  · exact Or.inl g
  · exact Or.inr (by omega)
  · exact Or.inr (by omega)
  · exact Or.inr (by omega)
/-- a deed and what follows -/
theorem s_116 {Z : gN} (h : hT τ b n p) (hk : (sc b n p).1 = 7 ∨ (sc b n p).1 = 8) (hL : rL τ Z) (hI : pI (stD Z (sc b n p).1)) (z7 : 0 ≤ Z 7 0 ∧ Z 7 0 < 12) (hR : RD b n (sc b n p).2.2.2 (stD Z (sc b n p).1) R) (r79 : τ 79 (12 + Z 7 0) = cf (Z 13) (Z 7 0)) (r80 : τ 80 (12 + Z 7 0) = Z 2 0) : gv (g_X12_lineRead_116 (12 + Z 7 0)) T τ (lnQ τ b n (sc b n p).2.2.2 R) := by
  have k7 := d_key (T := T) h.2.1 (x := 1) (by decide)
  rw [show 6 + pz 1 = 7 by decide] at k7
  unfold g_X12_lineRead_116
  refine gv_as (by omega) ?_
  have hf1 : gfr [83] τ (gup τ 83 (12 + Z 7 0) (-1)) := (gfr.refl _ _).up (by decide)
  have hl1 : lo5 τ (gup τ 83 (12 + Z 7 0) (-1)) := lo5.up (by omega)
  have hL1 := rL_up (v := -1) hL (r := 83) (by decide)
  have e83 : gup τ 83 (12 + Z 7 0) (-1) 83 (12 + Z 7 0) = -1 := gup_at _ _ _ _
  have q79 : gup τ 83 (12 + Z 7 0) (-1) 79 (12 + Z 7 0) = cf (Z 13) (Z 7 0) := by rw [gup_ne (by decide)]; exact r79
  have q80 : gup τ 83 (12 + Z 7 0) (-1) 80 (12 + Z 7 0) = Z 2 0 := by rw [gup_ne (by decide)]; exact r80
  generalize gup τ 83 (12 + Z 7 0) (-1) = τ1 at hf1 hl1 hL1 e83 q79 q80 ⊢
  have k7' := d_key (T := T) (h.fr hf1 (by decide)).2.1 (x := 1) (by decide)
  rw [show 6 + pz 1 = 7 by decide] at k7'
  refine gv_rd k7' (gv_call (s_tk (h.fr hf1 (by decide))) (fun _ τ2 h2 => ?_))
  obtain ⟨f2, hT2⟩ := h2
  have hL2 := hL1.fr f2 (by decide)
  have hf2 : gfr [83, -6914, -6915, -6916, -6917] τ τ2 := (hf1.mono (by decide)).trans (f2.mono (by decide))
  have hlo3 : lo3 τ τ2 := hf2.lo3 (by decide)
  have hlo5 : lo5 τ τ2 := hl1.trans (f2.lo5 (by decide))
  have hv := stE_v (S := gup (gup (gup Z 6 0 0) 12 (Z 7 0) (Z 2 0)) 11 (Z 7 0) 3)
  rcases hk with c7 | c8
  · rw [if_pos c7]
    rw [c7] at hI hR
    have eS : stD Z 7 = gup (gup (gup Z 6 0 0) 12 (Z 7 0) (Z 2 0)) 0 0 1 := by unfold stD; rw [if_pos rfl]
    have m1 : stD Z 7 0 0 = 1 := by rw [eS, gup_at]
    have y7 : stD Z 7 7 = Z 7 := by rw [eS]; simp (disch := decide) only [gup_ne]
    have hL3 : rL τ2 (stD Z 7) := by
      rw [eS]
      refine rL_ln hL2 ?_ ?_ ?_ ?_ (fun i hi => ?_) (fun i hi => ?_) ?_
      · simp (disch := decide) only [gup_ne]
      · simp (disch := decide) only [gup_ne]
      · simp (disch := decide) only [gup_ne]
      · simp (disch := decide) only [gup_ne]
      · simp (disch := decide) only [gup_ne]
      · rw [gup_ne (by decide), gup_same, if_neg (by omega), gup_ne (by decide)]
      · simp (disch := decide) only [gup_ne]
    generalize hq : (sc b n p).2.2.2 = q at hR hT2 ⊢
    have hsc := sc_in (b := b) hT2.2.2.2
    have ef : fc (stD Z 7) (sc b n q).1 (sc b n q).2.1 = (if (sc b n q).1 = 2 then (if (sc b n q).2.1 < 3 then 0 else 2) else 1) := by unfold fc; rw [if_neg (by omega), if_pos m1]
    have en : nx (stD Z 7) (sc b n q).1 (sc b n q).2.1 = stE (gup (stD Z 7) 11 (stD Z 7 7 0) (sc b n q).2.1) := by unfold nx; rw [if_neg (by omega), if_pos m1]
    refine gv_cz (by decide) (fun c => absurd c (by decide)) (fun _ => ?_)
    unfold g_X12_numberRead g_X12_numberRead_30
    rcases tk_num hT2 with ⟨n1, n2, n3, n4⟩ | ⟨n1, n2, n3⟩
    · rw [if_pos n1] at ef
      refine gv_call (Q' := fun r τ3 => (τ2 (-6916) 0 ≤ 2 ∧ r = 1 ∧ τ3 = τ2) ∨ (¬ τ2 (-6916) 0 ≤ 2 ∧ r = 0 ∧ τ3 (-6911) 0 = 2 ∧ τ3 (-6912) 0 = τ2 (-6917) 0 ∧ gfr [-6911, -6912] τ2 τ3)) (gv_get ?_) (fun r τ3 h3 => ?_)
      · rw [n2]
        refine gv_cb (by decide) (fun _ => gv_get (gv_cb ⟨⟨by omega, by omega⟩, ⟨by omega, by omega⟩⟩ (fun c => by omega) (fun c => gv_get (gv_cb ⟨⟨by omega, by omega⟩, ⟨by omega, by omega⟩⟩ (fun c => gv_ret (Or.inl ⟨c, rfl, rfl⟩)) (fun c => gv_call (s_wrong 2) (fun r τ3 h3 => ?_)))))) (fun g => absurd rfl g)
        rw [h3.1]
        exact gv_cz (by decide) (fun _ => gv_ret (Or.inr ⟨c, rfl, h3.2⟩)) (fun g => absurd rfl g)
      · rcases h3 with ⟨c2, rfl, e32⟩ | ⟨c2, rfl, w⟩
        · rw [e32]; clear e32 τ3
          rw [if_pos (by omega)] at ef
          refine gv_cz (by decide) (fun _ => gv_get (gv_as (by omega) ?_)) (fun g => absurd (by decide) g)
          have hIn := pI_nx hI ef hsc.1 hsc.2.1
          have hRn := hR.step hT2.2.2.2 ef (by omega)
          rw [en, y7] at hIn hRn
          have evv : τ2 (-6916) 0 = (sc b n q).2.1 := by omega
          rw [evv]
          have hf3 : gfr [83] τ2 (gup τ2 83 (12 + Z 7 0) (sc b n q).2.1) := (gfr.refl _ _).up (by decide)
          have hl3 : lo5 τ2 (gup τ2 83 (12 + Z 7 0) (sc b n q).2.1) := lo5.up (by omega)
          have hL4 := rL_up (v := (sc b n q).2.1) hL3 (r := 83) (by decide)
          rw [y7] at hL4
          have e83' : gup τ2 83 (12 + Z 7 0) (sc b n q).2.1 83 (12 + Z 7 0) = (sc b n q).2.1 := gup_at _ _ _ _
          generalize gup τ2 83 (12 + Z 7 0) (sc b n q).2.1 = τ3 at hf3 hl3 hL4 e83' ⊢
          refine gv_call (s_tk (hT2.fr hf3 (by decide))) (fun _ τ4 h4 => ?_)
          obtain ⟨f4, hT4⟩ := h4
          generalize hS2 : gup (stD Z 7) 11 (Z 7 0) (sc b n q).2.1 = S2 at hIn hRn
          have w : ∀ r : Int, r ≠ 11 → S2 r = stD Z 7 r := fun r hr => by rw [← hS2]; exact gup_ne hr
          have w11 : S2 11 (Z 7 0) = (sc b n q).2.1 := by rw [← hS2, gup_at]
          have w11' : ∀ i : Int, i < Z 7 0 → S2 11 i = stD Z 7 11 i := fun i hi => by rw [← hS2, gup_same, if_neg (by omega)]
          have hv2 := stE_v (S := S2)
          have g7 : stE S2 7 = Z 7 := by rw [stE_r (by decide) (by decide) (by decide) (by decide) (by decide) (by decide), w 7 (by decide), y7]
          have hf4 : gfr [83, -6914, -6915, -6916, -6917] τ τ4 := ((hf2.mono (by decide)).trans (hf3.mono (by decide))).trans (f4.mono (by decide))
          have hL5 : rL τ4 (stE S2) := by
            refine rL_ln (hL4.fr f4 (by decide)) ?_ ?_ ?_ ?_ (fun i hi => ?_) (fun i hi => ?_) ?_
            · rw [stE_r (by decide) (by decide) (by decide) (by decide) (by decide) (by decide), w _ (by decide)]
            · rw [stE_r (by decide) (by decide) (by decide) (by decide) (by decide) (by decide), w _ (by decide)]
            · rw [stE_r (by decide) (by decide) (by decide) (by decide) (by decide) (by decide), w _ (by decide)]
            · rw [stE_r (by decide) (by decide) (by decide) (by decide) (by decide) (by decide), w _ (by decide)]
            · rw [y7] at hi
              rw [stE_r (by decide) (by decide) (by decide) (by decide) (by decide) (by decide), w11' i hi]
            · rw [stE_r (by decide) (by decide) (by decide) (by decide) (by decide) (by decide), w _ (by decide)]
            · rw [stE_r (by decide) (by decide) (by decide) (by decide) (by decide) (by decide), w _ (by decide)]
          have key := s_162 (T := T) hT4 hIn hL5 hRn hv2.1 hv2.2.1 hv2.2.2.1 hv2.2.2.2.1 hv2.2.2.2.2 ?_ ?_ ?_ ?_
          · rw [g7] at key
            exact key.mono (fun r τ' hq => hq.from hf4 (by decide) (hf4.lo3 (by decide)) ((hlo5.trans hl3).trans (f4.lo5 (by decide))) (by omega))
          · rw [stE_r (by decide) (by decide) (by decide) (by decide) (by decide) (by decide), w _ (by decide), eS]; simp (disch := decide) only [gup_ne, gup_at]
          · rw [g7, stE_r (r := 13) (by decide) (by decide) (by decide) (by decide) (by decide) (by decide), w _ (by decide), eS]
            simp (disch := decide) only [gup_ne]
            rw [hf4 _ (by decide)]; exact r79
          · rw [g7, stE_r (r := 12) (by decide) (by decide) (by decide) (by decide) (by decide) (by decide), w _ (by decide), eS, gup_ne (by decide), gup_at, hf4 _ (by decide)]; exact r80
          · rw [g7, stE_r (r := 11) (by decide) (by decide) (by decide) (by decide) (by decide) (by decide), w11, f4 _ (by decide), e83']
            unfold dee; rw [if_neg (by omega)]
        · refine gv_cz (by decide) (fun g => absurd rfl g) (fun _ => gv_ret ?_)
          exact ln_bad hf2 (by decide) hlo3 hlo5 hT2 hR (by rw [ef, if_neg (by omega)]) (by decide) w
    · rw [if_neg n1] at ef
      refine gv_call (Q' := fun r τ3 => r = 0 ∧ τ3 (-6911) 0 = 1 ∧ τ3 (-6912) 0 = τ2 (-6917) 0 ∧ gfr [-6911, -6912] τ2 τ3) (gv_get (gv_cb (by omega) (fun g => absurd g n2) (fun _ => gv_call (s_wrong 1) (fun r τ3 h3 => gv_ck (Or.inl h3.1) (gv_ret h3))))) (fun r τ3 h3 => ?_)
      rw [h3.1]
      exact gv_cz (by decide) (fun g => absurd rfl g) (fun _ => gv_ret (ln_bad hf2 (by decide) hlo3 hlo5 hT2 hR ef (by decide) h3.2))
  · rw [if_neg (by omega)]
    refine gv_cz (by decide) (fun _ => ?_) (fun c => absurd rfl c)
    rw [c8] at hI hR
    have eS : stD Z 8 = stE (gup (gup (gup Z 6 0 0) 12 (Z 7 0) (Z 2 0)) 11 (Z 7 0) 3) := by unfold stD; rw [if_neg (by decide)]
    rw [eS] at hI hR
    generalize hS2 : gup (gup (gup Z 6 0 0) 12 (Z 7 0) (Z 2 0)) 11 (Z 7 0) 3 = S2 at hI hR hv
    have g7 : stE S2 7 = Z 7 := by rw [stE_r (by decide) (by decide) (by decide) (by decide) (by decide) (by decide), ← hS2]; simp (disch := decide) only [gup_ne]
    have hL5 : rL τ2 (stE S2) := by
      refine rL_ln hL2 ?_ ?_ ?_ ?_ (fun i hi => ?_) (fun i hi => ?_) ?_
      · rw [stE_r (by decide) (by decide) (by decide) (by decide) (by decide) (by decide), ← hS2]; simp (disch := decide) only [gup_ne]
      · rw [stE_r (by decide) (by decide) (by decide) (by decide) (by decide) (by decide), ← hS2]; simp (disch := decide) only [gup_ne]
      · rw [stE_r (by decide) (by decide) (by decide) (by decide) (by decide) (by decide), ← hS2]; simp (disch := decide) only [gup_ne]
      · rw [stE_r (by decide) (by decide) (by decide) (by decide) (by decide) (by decide), ← hS2]; simp (disch := decide) only [gup_ne]
      · rw [stE_r (by decide) (by decide) (by decide) (by decide) (by decide) (by decide), ← hS2, gup_same, if_neg (by omega)]; simp (disch := decide) only [gup_ne]
      · rw [stE_r (by decide) (by decide) (by decide) (by decide) (by decide) (by decide), ← hS2, gup_ne (by decide), gup_same, if_neg (by omega), gup_ne (by decide)]
      · rw [stE_r (by decide) (by decide) (by decide) (by decide) (by decide) (by decide), ← hS2]; simp (disch := decide) only [gup_ne]
    have key := s_162 (T := T) hT2 hI hL5 hR hv.1 hv.2.1 hv.2.2.1 hv.2.2.2.1 hv.2.2.2.2 ?_ ?_ ?_ ?_
    · rw [g7] at key
      exact key.mono (fun r τ' hq => hq.from hf2 (by decide) hlo3 hlo5 (Int.le_refl _))
    · rw [stE_r (by decide) (by decide) (by decide) (by decide) (by decide) (by decide), ← hS2]; simp (disch := decide) only [gup_ne, gup_at]
    · rw [g7, stE_r (r := 13) (by decide) (by decide) (by decide) (by decide) (by decide) (by decide), ← hS2]
      simp (disch := decide) only [gup_ne]
      rw [hf2 _ (by decide)]; exact r79
    · rw [g7, stE_r (r := 12) (by decide) (by decide) (by decide) (by decide) (by decide) (by decide), ← hS2, gup_ne (by decide), gup_at, hf2 _ (by decide)]; exact r80
    · rw [g7, stE_r (r := 11) (by decide) (by decide) (by decide) (by decide) (by decide) (by decide), ← hS2, gup_at, f2 _ (by decide), e83]; rfl
theorem s_84 {Z S0 : gN} {k0 : gN} (h : hT τ b n p) (hL : rL τ Z) (z7 : 0 ≤ Z 7 0 ∧ Z 7 0 < 12) (r79 : τ 79 (12 + Z 7 0) = cf (Z 13) (Z 7 0)) (hgood : (sc b n p).1 = 7 ∨ (sc b n p).1 = 8 → pI (stD Z (sc b n p).1) ∧ RD b n (sc b n p).2.2.2 (stD Z (sc b n p).1) R) (hbad : ¬ ((sc b n p).1 = 7 ∨ (sc b n p).1 = 8) → fc S0 (sc b n p).1 (sc b n p).2.1 = 1 ∧ RD b n p S0 R) : gv (g_X12_lineRead_84 (12 + Z 7 0)) T τ (lnQ τ b n (sc b n p).2.2.2 R) := by
  have hsc := sc_in (b := b) h.2.2.2
  unfold g_X12_lineRead_84
  refine gv_get (gv_as (by omega) ?_)
  rw [hL.2.2.1]
  have hf1 : gfr [80] τ (gup τ 80 (12 + Z 7 0) (Z 2 0)) := (gfr.refl _ _).up (by decide)
  have hl1 : lo5 τ (gup τ 80 (12 + Z 7 0) (Z 2 0)) := lo5.up (by omega)
  have hL1 := rL_up (v := Z 2 0) hL (r := 80) (by decide)
  have q80 : gup τ 80 (12 + Z 7 0) (Z 2 0) 80 (12 + Z 7 0) = Z 2 0 := gup_at _ _ _ _
  have q79 : gup τ 80 (12 + Z 7 0) (Z 2 0) 79 (12 + Z 7 0) = cf (Z 13) (Z 7 0) := by rw [gup_ne (by decide)]; exact r79
  generalize gup τ 80 (12 + Z 7 0) (Z 2 0) = τ1 at hf1 hl1 hL1 q80 q79 ⊢
  have hT1 := h.fr hf1 (by decide)
  have k7 := d_key (T := T) hT1.2.1 (x := 1) (by decide)
  rw [show 6 + pz 1 = 7 by decide] at k7
  have k8 := d_key (T := T) hT1.2.1 (x := 2) (by decide)
  rw [show 6 + pz 2 = 8 by decide] at k8
  have go : ((sc b n p).1 = 7 ∨ (sc b n p).1 = 8) → gv (g_X12_lineRead_116 (12 + Z 7 0)) T τ1 (lnQ τ b n (sc b n p).2.2.2 R) := fun c => by
    obtain ⟨g1, g2⟩ := hgood c
    exact (s_116 hT1 c hL1 g1 z7 g2 q79 q80).mono (fun r τ' hq => hq.from hf1 (by decide) (hf1.lo3 (by decide)) hl1 (Int.le_refl _))
  refine gv_rd k7 ?_
  by_cases c7 : (sc b n p).1 = 7
  · rw [if_pos c7]
    exact gv_cz (by decide) (fun _ => go (Or.inl c7)) (fun g => absurd (by decide) g)
  rw [if_neg c7]
  refine gv_cz (by decide) (fun g => absurd rfl g) (fun _ => gv_rd k8 ?_)
  by_cases c8 : (sc b n p).1 = 8
  · rw [if_pos c8]
    exact gv_cz (by decide) (fun _ => go (Or.inr c8)) (fun g => absurd (by decide) g)
  rw [if_neg c8]
  obtain ⟨g1, g2⟩ := hbad (by omega)
  exact gv_cz (by decide) (fun g => absurd rfl g) (fun _ => ln_wrong hf1 (by decide) (hf1.lo3 (by decide)) hl1 hT1 g2 g1 (by decide))
theorem s_lineRead (h : hT τ b n p) (hI : pI S) (h0 : S 0 0 = 0) (hL : rL τ S) (hR : RD b n p S R) (hk : ¬ (sc b n p).1 = 0) : gv g_X12_lineRead T τ (lnQ τ b n (sc b n p).2.2.2 R) := by
  have hp := hI.m0 h0
  have l7 := hI.1.1
  have hsc := sc_in (b := b) h.2.2.2
  have ef : fc S (sc b n p).1 (sc b n p).2.1 = (if (sc b n p).1 = 6 ∨ (sc b n p).1 = 7 ∨ (sc b n p).1 = 8 then (if S 7 0 < 12 then 0 else 2) else 1) := by unfold fc; rw [if_pos h0, if_neg hk]
  have en : nx S (sc b n p).1 (sc b n p).2.1 = (if (sc b n p).1 = 6 then stE (gup S 6 0 1) else stD S (sc b n p).1) := by unfold nx; rw [if_pos h0, if_neg hk]
  have k6 := d_key (T := T) h.2.1 (x := 0) (by decide)
  rw [show 6 + pz 0 = 6 by decide] at k6
  have k7 := d_key (T := T) h.2.1 (x := 1) (by decide)
  rw [show 6 + pz 1 = 7 by decide] at k7
  have k8 := d_key (T := T) h.2.1 (x := 2) (by decide)
  rw [show 6 + pz 2 = 8 by decide] at k8
  have h30 : ((sc b n p).1 = 6 ∨ (sc b n p).1 = 7 ∨ (sc b n p).1 = 8) → gv g_X12_lineRead_30 T τ (lnQ τ b n (sc b n p).2.2.2 R) := fun ck => by
    rw [if_pos ck] at ef
    unfold g_X12_lineRead_30
    refine gv_get ?_
    rw [hL.2.1]
    refine gv_cb ⟨⟨by omega, by omega⟩, ⟨by omega, by omega⟩⟩ (fun c12 => gv_get (gv_let (gv_get (gv_as ?_ ?_)))) (fun c12 => ln_wrong (gfr.refl [] τ) (by decide) (lo3.refl _) (lo5.refl _) h hR (by rw [ef, if_neg (by omega)]) (by decide))
    · rw [hL.2.1]; omega
    rw [hL.2.1, hL.2.2.1]
    rw [if_pos (by omega)] at ef
    have hf1 : gfr [79] τ (gup τ 79 (12 + S 7 0) (S 2 0)) := (gfr.refl _ _).up (by decide)
    have hl1 : lo5 τ (gup τ 79 (12 + S 7 0) (S 2 0)) := lo5.up (by omega)
    have hL1 := rL_up (v := S 2 0) hL (r := 79) (by decide)
    have q79 : gup τ 79 (12 + S 7 0) (S 2 0) 79 (12 + S 7 0) = cf (S 13) (S 7 0) := by rw [gup_at]; exact hp.2.2
    generalize gup τ 79 (12 + S 7 0) (S 2 0) = τ1 at hf1 hl1 hL1 q79 ⊢
    have hT1 := h.fr hf1 (by decide)
    have k6' := d_key (T := T) hT1.2.1 (x := 0) (by decide)
    rw [show 6 + pz 0 = 6 by decide] at k6'
    have hIn := pI_nx hI ef hsc.1 hsc.2.1
    have hRn := hR.step h.2.2.2 ef hk
    rw [en] at hIn hRn
    refine gv_rd k6' ?_
    by_cases c6 : (sc b n p).1 = 6
    · rw [if_pos c6] at hIn hRn ⊢
      refine gv_cz (by decide) (fun g => absurd g (by decide)) (fun _ => gv_call (s_tk hT1) (fun _ τ2 h2 => ?_))
      obtain ⟨f2, hT2⟩ := h2
      have hv := stE_v (S := gup S 6 0 1)
      have w : ∀ r : Int, r ≠ 3 → r ≠ 4 → r ≠ 10 → r ≠ 5 → r ≠ 0 → r ≠ 14 → r ≠ 6 → stE (gup S 6 0 1) r = S r := fun r a1 a2 a3 a4 a5 a6 a7 => by rw [stE_r a1 a2 a3 a4 a5 a6, gup_ne a7]
      have w6 : stE (gup S 6 0 1) 6 0 = 1 := by rw [stE_r (by decide) (by decide) (by decide) (by decide) (by decide) (by decide), gup_at]
      have w1 := w 1 (by decide) (by decide) (by decide) (by decide) (by decide) (by decide) (by decide)
      have w2 := w 2 (by decide) (by decide) (by decide) (by decide) (by decide) (by decide) (by decide)
      have w7 := w 7 (by decide) (by decide) (by decide) (by decide) (by decide) (by decide) (by decide)
      have w8 := w 8 (by decide) (by decide) (by decide) (by decide) (by decide) (by decide) (by decide)
      have w11 := w 11 (by decide) (by decide) (by decide) (by decide) (by decide) (by decide) (by decide)
      have w12 := w 12 (by decide) (by decide) (by decide) (by decide) (by decide) (by decide) (by decide)
      have w13 := w 13 (by decide) (by decide) (by decide) (by decide) (by decide) (by decide) (by decide)
      have hL2 : rL τ2 (stE (gup S 6 0 1)) := rL_rows (hL1.fr f2 (by decide)) (by rw [w1]) (by rw [w2]) (by rw [w7]) w8 w11 w12 w13
      generalize stE (gup S 6 0 1) = S1 at hIn hRn hv w6 w7 w13 hL2
      refine gv_call (s_sumRead hT2 hIn hL2 hRn hv.1 hv.2.1 hv.2.2.1 hv.2.2.2.1 hv.2.2.2.2) (fun r τ3 h3 => ?_)
      obtain ⟨f3, lo3', q⟩ := h3
      have hf3 : gfr (79 :: wSm) τ τ3 := ((hf1.mono (by decide)).trans (f2.mono (by decide))).trans (f3.mono (by decide))
      have hlo3 : lo3 τ τ3 := ((hf1.lo3 (by decide)).trans (f2.lo3 (by decide))).trans lo3'
      have hlo5 : lo5 τ τ3 := (hl1.trans (f2.lo5 (by decide))).trans (f3.lo5 (by decide))
      rcases q with ⟨rfl, g⟩ | ⟨rfl, p', S', hpp, hT', hp3, hpL, hd, hno, l2, hR', hkx⟩
      · exact gv_cz (by decide) (fun c => absurd rfl c) (fun _ => gv_ret ⟨hf3.mono (by decide), hlo3, hlo5, Or.inl ⟨rfl, g⟩⟩)
      refine gv_cz (by decide) (fun _ => ?_) (fun c => absurd (by decide) c)
      have x7' := hkx 7 (by decide)
      have x6' := hkx 6 (by decide)
      have x13' := hkx 13 (by decide)
      obtain ⟨z1, z2, z3, z4, z5⟩ := rel_end hpL hp3 hd
      have x7 : rel S' 1 7 = S 7 := ((z5.1 7 (by decide) (by decide) (by decide)).trans x7').trans w7
      have x13 : rel S' 1 13 = S 13 := ((z5.1 13 (by decide) (by decide) (by decide)).trans x13').trans w13
      have m3 := hp3.1
      have hsc' := sc_in (b := b) hT'.2.2.2
      have hI' : pI S' := ⟨hpL, Or.inr (Or.inr (Or.inr hp3))⟩
      have ef' : fc S' (sc b n p').1 (sc b n p').2.1 = if (sc b n p').1 = 7 ∨ (sc b n p').1 = 8 then 0 else 1 := by
        unfold fc
        rw [if_neg (by omega), if_neg (by omega), if_neg (by omega)]
        by_cases c4 : (sc b n p').1 = 4
        · rw [if_pos c4, if_pos hd, if_neg (by omega)]
        · rw [if_neg c4, if_neg (by omega), if_neg hno, if_neg (by omega), if_pos (by rw [x6', w6]; decide)]
      have key := s_84 (T := T) (τ := τ3) (Z := rel S' 1) (S0 := S') (k0 := S') (R := R) hT' l2 (by rw [x7]; omega) ?_ (fun c => ?_) (fun c => ⟨by rw [ef', if_neg c], hR'⟩)
      · rw [x7] at key
        exact key.mono (fun r τ' hq => hq.from hf3 (by decide) hlo3 hlo5 (by omega))
      · rw [x7, x13, f3 _ (by decide), f2 _ (by decide)]; exact q79
      · rw [if_pos c] at ef'
        have en' : nx S' (sc b n p').1 (sc b n p').2.1 = stD (rel S' 1) (sc b n p').1 := by
          unfold nx
          rw [if_neg (by omega), if_neg (by omega), if_neg (by omega), if_neg (by omega), if_neg hno, if_pos (by rw [x6', w6]; decide)]
        have a1 := pI_nx hI' ef' hsc'.1 hsc'.2.1
        have a2 := hR'.step hT'.2.2.2 ef' (by omega)
        rw [en'] at a1 a2
        exact ⟨a1, a2⟩
    · rw [if_neg c6] at hIn hRn ⊢
      refine gv_cz (by decide) (fun _ => ?_) (fun g => absurd rfl g)
      exact (s_84 (S0 := S) (k0 := S) hT1 hL1 (by omega) q79 (fun _ => ⟨hIn, hRn⟩) (fun c => absurd (by omega) c)).mono (fun r τ' hq => hq.from hf1 (by decide) (hf1.lo3 (by decide)) hl1 (Int.le_refl _))
  unfold g_X12_lineRead
  refine gv_rd k6 ?_
  by_cases c6 : (sc b n p).1 = 6
  · rw [if_pos c6]
    exact gv_cz (by decide) (fun _ => h30 (Or.inl c6)) (fun g => absurd (by decide) g)
  rw [if_neg c6]
  refine gv_cz (by decide) (fun g => absurd rfl g) (fun _ => gv_rd k7 ?_)
  by_cases c7 : (sc b n p).1 = 7
  · rw [if_pos c7]
    exact gv_cz (by decide) (fun _ => h30 (Or.inr (Or.inl c7))) (fun g => absurd (by decide) g)
  rw [if_neg c7]
  refine gv_cz (by decide) (fun g => absurd rfl g) (fun _ => gv_rd k8 ?_)
  by_cases c8 : (sc b n p).1 = 8
  · rw [if_pos c8]
    exact gv_cz (by decide) (fun _ => h30 (Or.inr (Or.inr c8))) (fun g => absurd (by decide) g)
  rw [if_neg c8]
  rw [if_neg (by omega)] at ef
  exact gv_cz (by decide) (fun g => absurd rfl g) (fun _ => ln_wrong (gfr.refl [] τ) (by decide) (lo3.refl _) (lo5.refl _) h hR ef (by decide))
end
