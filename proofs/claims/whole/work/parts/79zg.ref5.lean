/-! PLAN: the reference's lines -/
def lo5 (τ τ' : gN) : Prop := ∀ r : Int, r = 79 ∨ r = 80 ∨ r = 81 ∨ r = 82 ∨ r = 83 → ∀ j : Int, j < 12 → τ' r j = τ r j
theorem lo5.refl (τ : gN) : lo5 τ τ := fun _ _ _ _ => rfl
theorem lo5.trans {a b c : gN} (h1 : lo5 a b) (h2 : lo5 b c) : lo5 a c := fun r hr j hj => (h2 r hr j hj).trans (h1 r hr j hj)
theorem gfr.lo5 {W : List Int} {a c : gN} (h : gfr W a c) (hd : ∀ x ∈ ([79, 80, 81, 82, 83] : List Int), x ∉ W) : lo5 a c := fun r hr j _ => by
  rw [h r (hd r (by rcases hr with e | e | e | e | e <;> subst e <;> decide))]
theorem lo5.up {a : gN} {r i v : Int} (hi : 12 ≤ i) : lo5 a (gup a r i v) := fun r' _ j hj => by
  by_cases c : r' = r
  · rw [c, gup_same, if_neg (by omega)]
  · rw [gup_ne c]
def lnQ (τ : gN) (b : Int → Int) (n p : Int) (R : Int × Int × gN) (r : Int) (τ' : gN) : Prop := gfr wPl τ τ' ∧ lo3 τ τ' ∧ lo5 τ τ' ∧ ((r = 0 ∧ fQ R τ') ∨ (r = 1 ∧ ∃ p' S', p ≤ p' ∧ hT τ' b n p' ∧ rL τ' S' ∧ pI S' ∧ S' 0 0 = 0 ∧ RD b n p' S' R))
section
variable {T : gT} {τ τ1 S : gN} {b : Int → Int} {n p m : Int} {R : Int × Int × gN}
theorem rL_ln {S S' : gN} (h : rL τ S) (h1 : S' 1 0 = S 1 0) (h2 : S' 2 0 = S 2 0) (h7 : S' 7 0 = S 7 0) (h8 : S' 8 = S 8) (h11 : ∀ i : Int, i < S 7 0 → S' 11 i = S 11 i) (h12 : ∀ i : Int, i < S 7 0 → S' 12 i = S 12 i) (h13 : S' 13 = S 13) : rL τ S' := by
  obtain ⟨l1, l2, l3, l4, l5⟩ := h
  refine ⟨by rw [h1]; exact l1, by rw [h7]; exact l2, by rw [h2]; exact l3, fun i hi => ?_, fun i a1 a2 => ?_⟩
  · rw [h2] at hi; rw [h8]; exact l4 i hi
  · rw [h7] at a2
    have := l5 i a1 a2
    unfold lnR at this ⊢
    rw [h13, h11 i a2, h12 i a2]; exact this
theorem rL_up (h : rL τ S) {r v : Int} (hr : r = 79 ∨ r = 80 ∨ r = 81 ∨ r = 82 ∨ r = 83) : rL (gup τ r (12 + S 7 0) v) S := by
  obtain ⟨l1, l2, l3, l4, l5⟩ := h
  refine ⟨by rw [gup_ne (by omega)]; exact l1, by rw [gup_ne (by omega)]; exact l2, by rw [gup_ne (by omega)]; exact l3, fun i hi => nOK_fr (l4 i hi) (gup_ne (by omega)) (gup_ne (by omega)) (gup_ne (by omega)), fun i a1 a2 => ?_⟩
  have e : ∀ x : Int, gup τ r (12 + S 7 0) v x (12 + i) = τ x (12 + i) := fun x => by
    by_cases c : x = r
    · rw [c, gup_same, if_neg (by omega)]
    · rw [gup_ne c]
  have := l5 i a1 a2
  unfold lnR at this ⊢
  rw [e, e, e, e, e]; exact this
theorem stE_r {r : Int} (a1 : r ≠ 3) (a2 : r ≠ 4) (a3 : r ≠ 10) (a4 : r ≠ 5) (a5 : r ≠ 0) (a6 : r ≠ 14) : stE S r = S r := by
  unfold stE; rw [gup_ne a6, gup_ne a5, gup_ne a4, gup_ne a3, gup_ne a2, gup_ne a1]
theorem stE_v : stE S 0 0 = 2 ∧ stE S 3 0 = 0 ∧ stE S 4 0 = 0 ∧ stE S 5 0 = 1 ∧ stE S 14 0 = stE S 2 0 := by
  refine ⟨?_, ?_, ?_, ?_, ?_⟩
  · unfold stE; simp (disch := decide) only [gup_ne, gup_at]
  · unfold stE; simp (disch := decide) only [gup_ne, gup_at]
  · unfold stE; simp (disch := decide) only [gup_ne, gup_at]
  · unfold stE; simp (disch := decide) only [gup_ne, gup_at]
  · rw [stE_r (r := 2) (by decide) (by decide) (by decide) (by decide) (by decide) (by decide)]; unfold stE; rw [gup_at]
theorem ln_bad {W : List Int} {τ' : gN} (hf : gfr W τ τ1) (hW : ∀ x ∈ W, x ∈ wPl) (hlo : lo3 τ τ1) (hlo5 : lo5 τ τ1) (h : hT τ1 b n p) (hR : RD b n p S R) {c p0 : Int} (e : fc S (sc b n p).1 (sc b n p).2.1 = c) (hc : ¬ c = 0) (hw : τ' (-6911) 0 = c ∧ τ' (-6912) 0 = τ1 (-6917) 0 ∧ gfr [-6911, -6912] τ1 τ') : lnQ τ b n p0 R 0 τ' := by
  obtain ⟨w1, w2, w3⟩ := hw
  refine ⟨(hf.mono hW).trans (w3.mono (by decide)), hlo.trans (w3.lo3 (by decide)), hlo5.trans (w3.lo5 (by decide)), Or.inl ⟨rfl, ?_⟩⟩
  rw [hR.fault h.2.2.2.2 (by rw [e]; exact hc)]
  exact ⟨by dsimp only; rw [e]; exact hc, by dsimp only; rw [e]; exact w1, by dsimp only; rw [w2]; exact tk17 h⟩
theorem ln_wrong {W : List Int} (hf : gfr W τ τ1) (hW : ∀ x ∈ W, x ∈ wPl) (hlo : lo3 τ τ1) (hlo5 : lo5 τ τ1) (h : hT τ1 b n p) (hR : RD b n p S R) {c p0 : Int} (e : fc S (sc b n p).1 (sc b n p).2.1 = c) (hc : ¬ c = 0) : gv (gbd (g_X12_wrong c) (fun v => gck ((v = 0) ∨ (v = 1)) (gret v))) T τ1 (lnQ τ b n p0 R) := by
  refine gv_call (s_wrong c) (fun r τ' hh => gv_ck (Or.inl hh.1) (gv_ret ?_))
  rw [hh.1]
  exact ln_bad hf hW hlo hlo5 h hR e hc hh.2
theorem lnQ.from {τ0 : gN} {p0 p1 r : Int} {τ' : gN} {W : List Int} (h : lnQ τ b n p1 R r τ') (hf : gfr W τ0 τ) (hW : ∀ x ∈ W, x ∈ wPl) (hlo : lo3 τ0 τ) (hlo5 : lo5 τ0 τ) (hp : p0 ≤ p1) : lnQ τ0 b n p0 R r τ' := by
  obtain ⟨q1, q2, q3, q4⟩ := h
  refine ⟨(hf.mono hW).trans q1, hlo.trans q2, hlo5.trans q3, ?_⟩
  rcases q4 with g | ⟨g1, p', S', g2, g3⟩
  · exact Or.inl g
  · exact Or.inr ⟨g1, p', S', by omega, g3⟩
/-- behind the deed: a number and a semicolon -/
theorem s_162 (h : hT τ b n p) (hI : pI S) (hL : rL τ S) (hR : RD b n p S R) (h0 : S 0 0 = 2) (h3 : S 3 0 = 0) (h4 : S 4 0 = 0) (h5 : S 5 0 = 1) (h14 : S 14 0 = S 2 0) (h6 : S 6 0 = 0) (r79 : τ 79 (12 + S 7 0) = cf (S 13) (S 7 0)) (r80 : τ 80 (12 + S 7 0) = S 12 (S 7 0)) (r83 : τ 83 (12 + S 7 0) = dee (S 11 (S 7 0))) : gv (g_X12_lineRead_162 (12 + S 7 0)) T τ (lnQ τ b n p R) := by
  have hp2 := hI.m2 h0
  have l7 := hI.1.1
  have s7 := hp2.2.1
  have hs : S 14 0 = S 12 (S 7 0) := by
    rcases hp2.2.2.2.2.2 with g | g
    · omega
    · exact g.2.1
  unfold g_X12_lineRead_162
  refine gv_get (gv_as (by omega) ?_)
  rw [hL.2.2.1]
  have hf1 : gfr [81] τ (gup τ 81 (12 + S 7 0) (S 2 0)) := (gfr.refl _ _).up (by decide)
  have hl1 : lo5 τ (gup τ 81 (12 + S 7 0) (S 2 0)) := lo5.up (by omega)
  have hL1 := rL_up (v := S 2 0) hL (r := 81) (by decide)
  have e81 : gup τ 81 (12 + S 7 0) (S 2 0) 81 (12 + S 7 0) = S 2 0 := gup_at _ _ _ _
  generalize gup τ 81 (12 + S 7 0) (S 2 0) = τ1 at hf1 hl1 hL1 e81 ⊢
  refine gv_call (s_sumRead (h.fr hf1 (by decide)) hI hL1 hR h0 h3 h4 h5 h14) (fun r τ2 hq => ?_)
  obtain ⟨f2, lo2, q⟩ := hq
  have hf2 : gfr (81 :: wSm) τ τ2 := (hf1.mono (by decide)).trans (f2.mono (by decide))
  have hlo3 : lo3 τ τ2 := (hf1.lo3 (by decide)).trans lo2
  have hlo5 : lo5 τ τ2 := hl1.trans (f2.lo5 (by decide))
  rcases q with ⟨rfl, g⟩ | ⟨rfl, p', S', hpp, hT', hp3, hpL, hd, hno, l2, hR', hk⟩
  · exact gv_cz (by decide) (fun c => absurd rfl c) (fun _ => gv_ret ⟨hf2.mono (by decide), hlo3, hlo5, Or.inl ⟨rfl, g⟩⟩)
  refine gv_cz (by decide) (fun _ => gv_get (gv_as (by omega) ?_)) (fun c => absurd (by decide) c)
  have k7 := hk 7 (by decide)
  have k6 := hk 6 (by decide)
  have k11 := hk 11 (by decide)
  have k12 := hk 12 (by decide)
  have k13 := hk 13 (by decide)
  obtain ⟨z1, z2, z3, z4, z5⟩ := rel_end hpL hp3 hd
  have rr : ∀ r : Int, r ≠ 8 → r ≠ 3 → r ≠ 2 → rel S' 1 r = S' r := z5.1
  have x7 : rel S' 1 7 = S 7 := (rr 7 (by decide) (by decide) (by decide)).trans k7
  have x11 : rel S' 1 11 = S 11 := (rr 11 (by decide) (by decide) (by decide)).trans k11
  have x12 : rel S' 1 12 = S 12 := (rr 12 (by decide) (by decide) (by decide)).trans k12
  have x13 : rel S' 1 13 = S 13 := (rr 13 (by decide) (by decide) (by decide)).trans k13
  have x1 : rel S' 1 1 = S' 1 := rr 1 (by decide) (by decide) (by decide)
  rw [l2.2.2.1]
  have hL3 := rL_up (v := rel S' 1 2 0) l2 (r := 82) (by decide)
  rw [x7] at hL3
  have hf3 : gfr [82] τ2 (gup τ2 82 (12 + S 7 0) (rel S' 1 2 0)) := (gfr.refl _ _).up (by decide)
  have hl3 : lo5 τ2 (gup τ2 82 (12 + S 7 0) (rel S' 1 2 0)) := lo5.up (by omega)
  have e82 : gup τ2 82 (12 + S 7 0) (rel S' 1 2 0) 82 (12 + S 7 0) = rel S' 1 2 0 := gup_at _ _ _ _
  generalize gup τ2 82 (12 + S 7 0) (rel S' 1 2 0) = τ3 at hf3 hl3 hL3 e82 ⊢
  have hT3 := hT'.fr hf3 (by decide)
  have hsc := sc_in (b := b) hT3.2.2.2
  have hf03 : gfr (81 :: 82 :: wSm) τ τ3 := (hf2.mono (by decide)).trans (hf3.mono (by decide))
  have ef : fc S' (sc b n p').1 (sc b n p').2.1 = if (sc b n p').1 = 5 then 0 else 1 := by
    have m3 := hp3.1
    unfold fc
    rw [if_neg (by omega), if_neg (by omega), if_neg (by omega)]
    by_cases c4 : (sc b n p').1 = 4
    · rw [if_pos c4, if_pos hd, if_neg (by omega)]
    · rw [if_neg c4, if_neg (by omega), if_neg hno, if_neg (by omega), if_neg (by rw [k6]; omega)]
  have s5 := d_sign (T := T) hT3.2.1 (x := 59) (k := 5) (by decide)
  refine gv_rd s5 ?_
  by_cases c5 : (sc b n p').1 = 5
  · rw [if_pos c5] at ef ⊢
    refine gv_cz (by decide) (fun _ => gv_get (gv_put ?_)) (fun c => absurd (by decide) c)
    have hI' : pI S' := ⟨hpL, Or.inr (Or.inr (Or.inr hp3))⟩
    have en : nx S' (sc b n p').1 (sc b n p').2.1 = eol S' := by
      have m3 := hp3.1
      unfold nx
      rw [if_neg (by omega), if_neg (by omega), if_neg (by omega), if_neg (by omega), if_neg hno, if_neg (by rw [k6]; omega)]
    have hIn := pI_nx hI' ef hsc.1 hsc.2.1
    have hRn := hR'.step hT3.2.2.2 ef (by omega)
    rw [en] at hIn hRn
    have e21 : τ3 (-6921) 0 = S 7 0 := by have := hL3.2.1; rw [x7] at this; exact this
    rw [e21]
    have hf4 : gfr [-6921] τ3 (gup τ3 (-6921) 0 (S 7 0 + 1)) := (gfr.refl _ _).up (by decide)
    have e21' : gup τ3 (-6921) 0 (S 7 0 + 1) (-6921) 0 = S 7 0 + 1 := gup_at _ _ _ _
    generalize gup τ3 (-6921) 0 (S 7 0 + 1) = τ4 at hf4 e21' ⊢
    refine gv_call (s_tk (hT3.fr hf4 (by decide))) (fun _ τ5 h5 => gv_ret ?_)
    obtain ⟨f5, hT5⟩ := h5
    have hf5 : gfr ([-6921, -6914, -6915, -6916, -6917]) τ3 τ5 := (hf4.mono (by decide)).trans (f5.mono (by decide))
    have t0 : eol S' 0 0 = 0 := by unfold eol; rw [gup_at]
    have t1 : eol S' 1 0 = rel S' 1 1 0 := by unfold eol; simp (disch := decide) only [gup_ne]
    have t2 : eol S' 2 0 = rel S' 1 2 0 := by unfold eol; simp (disch := decide) only [gup_ne]
    have t7 : eol S' 7 0 = S 7 0 + 1 := by unfold eol; simp (disch := decide) only [gup_ne, gup_at]; rw [k7]
    have t8 : eol S' 8 = rel S' 1 8 := by unfold eol; simp (disch := decide) only [gup_ne]
    have t11 : eol S' 11 = S 11 := by unfold eol; simp (disch := decide) only [gup_ne]; rw [x11]
    have t12 : eol S' 12 = S 12 := by unfold eol; simp (disch := decide) only [gup_ne]; rw [x12]
    have t13 : ∀ j : Int, eol S' 13 j = if j = S 7 0 then rel S' 1 2 0 else S 13 j := fun j => by unfold eol; simp (disch := decide) only [gup_ne, gup_same]; rw [x13, k7]
    refine ⟨(hf03.mono (by decide)).trans (hf5.mono (by decide)), (hlo3.trans (hf3.lo3 (by decide))).trans (hf5.lo3 (by decide)), (hlo5.trans hl3).trans (hf5.lo5 (by decide)), Or.inr ⟨rfl, (sc b n p').2.2.2, eol S', by omega, hT5, ⟨?_, ?_, ?_, fun i hi => ?_, fun i a1 a2 => ?_⟩, hIn, t0, hRn⟩⟩
    · rw [hf5 _ (by decide), t1]; exact hL3.1
    · rw [f5 _ (by decide), e21', t7]
    · rw [hf5 _ (by decide), t2]; exact hL3.2.2.1
    · rw [t2] at hi
      rw [t8]; exact nOK_fr (hL3.2.2.2.1 i hi) (hf5 _ (by decide)) (hf5 _ (by decide)) (hf5 _ (by decide))
    · rw [t7] at a2
      have ecf : cf (eol S' 13) i = cf (S 13) i := by
        unfold cf
        split
        · rfl
        · rw [t13, if_neg (by omega)]
      unfold lnR
      rw [hf5 79 (by decide), hf5 80 (by decide), hf5 81 (by decide), hf5 82 (by decide), hf5 83 (by decide), ecf, t11, t12, t13]
      by_cases c : i = S 7 0
      · rw [if_pos c, c]
        refine ⟨?_, ?_, ?_, e82, ?_⟩
        · rw [hf03 _ (by decide)]; exact r79
        · rw [hf03 _ (by decide)]; exact r80
        · rw [hf3 _ (by decide), f2 _ (by decide), e81, ← h14, hs]
        · rw [hf03 _ (by decide)]; exact r83
      · rw [if_neg c]
        have := hL3.2.2.2.2 i a1 (by rw [x7]; omega)
        unfold lnR at this
        rw [x11, x12, x13] at this
        exact this
  · rw [if_neg c5] at ef ⊢
    exact gv_cz (by decide) (fun c => absurd rfl c) (fun _ => ln_wrong hf03 (by decide) (hlo3.trans (hf3.lo3 (by decide))) (hlo5.trans hl3) hT3 hR' ef (by decide))
end
