/-! PLAN: the reference, whole -/
/-- the plan that stands, in the reference's rows, beside the function's rows -/
def nOl (τ : gN) (W : Int → Int) (i : Nat) : Prop := (W i < 1000 → τ 76 i = 0 ∧ τ 77 i = W i) ∧ (1012 ≤ W i ∧ W i ≤ 1020 → τ 76 i = 1 ∧ τ 77 i = W i - 1012) ∧ (W i = 1009 → τ 76 i = 2 ∧ τ 77 i = (sn W 0 i).getD 0 0 ∧ τ 78 i = -1) ∧ ((W i = 1010 ∨ W i = 1011 ∨ 1021 ≤ W i) → τ 76 i = sg (W i - 1000) ∧ τ 77 i = (sn W 0 i).getD 1 0 ∧ τ 78 i = (sn W 0 i).getD 0 0)
def rowsP (τ S : gN) : Prop := (∀ i : Nat, (i : Int) < S 2 0 → nOl τ (S 8) i) ∧ ∀ i : Int, 0 ≤ i → i < S 7 0 → τ 79 i = cf (S 13) i ∧ τ 80 i = S 12 i ∧ τ 81 i = S 12 i ∧ τ 82 i = S 13 i ∧ τ 83 i = dee (S 11 i)
def wPm : List Int := -6918 :: -6919 :: -6920 :: wPl
def plQ (τ : gN) (R : Int × Int × gN) (r : Int) (τ' : gN) : Prop := gfr wPm τ τ' ∧ τ' (-6911) 0 = R.1 ∧ τ' (-6912) 0 = R.2.1 ∧ ((¬ R.1 = 0 ∧ r = -1 ∧ lo3 τ τ' ∧ lo5 τ τ' ∧ gfr wPl τ τ') ∨ (R.1 = 0 ∧ r = R.2.2 7 0 ∧ τ' (-6918) 0 = 1 ∧ τ' (-6919) 0 = R.2.2 7 0 ∧ τ' (-6920) 0 = R.2.2 2 0 ∧ rowsP τ' R.2.2))
section
variable {T : gT} {τ τ1 S : gN} {b : Int → Int} {n p m : Int} {R : Int × Int × gN}
theorem s_plan162 : gv (g_X12_plan_162 0) T τ (fun r τ' => r = τ (-6919) 0 ∧ gfr [79, 80, 81, 82, 83] τ τ' ∧ ∀ q : Int, q = 79 ∨ q = 80 ∨ q = 81 ∨ q = 82 ∨ q = 83 → ∀ j : Int, 0 ≤ j → j < 12 → τ' q j = τ q (12 + j)) := by
  unfold g_X12_plan_162
  refine gv_fx (fun (x : Int) σ => (0 ≤ x ∧ x ≤ 12) ∧ gfr [79, 80, 81, 82, 83] τ σ ∧ ∀ q : Int, q = 79 ∨ q = 80 ∨ q = 81 ∨ q = 82 ∨ q = 83 → ∀ j : Int, σ q j = if 0 ≤ j ∧ j < x then τ q (12 + j) else τ q j) (fun x _ => (12 - x).toNat) ⟨by omega, gfr.refl _ _, fun q _ j => by rw [if_neg (by omega)]⟩ (by decide) ?_
  intro rec x σ hI hrec
  obtain ⟨hx, hf, hr⟩ := hI
  unfold gB_X12_plan_162
  refine gv_cb ⟨⟨by omega, by omega⟩, ⟨by omega, by omega⟩⟩ (fun c => gv_get (gv_ret ⟨by rw [hf _ (by decide)], hf, fun q hq j a1 a2 => by rw [hr q hq j, if_pos (by omega)]⟩)) (fun c => gv_al (by omega) (gv_as (by omega) (gv_al (by omega) (gv_as (by omega) (gv_al (by omega) (gv_as (by omega) (gv_al (by omega) (gv_as (by omega) (gv_al (by omega) (gv_as (by omega) (gv_let (hrec _ _ ⟨by omega, ?_, fun q hq j => ?_⟩ (by omega)))))))))))))
  · exact ((((hf.up (by decide)).up (by decide)).up (by decide)).up (by decide)).up (by decide)
  · have e : ∀ q : Int, q = 79 ∨ q = 80 ∨ q = 81 ∨ q = 82 ∨ q = 83 → σ q (12 + x) = τ q (12 + x) := fun q hq => by rw [hr q hq, if_neg (by omega)]
    have fin : ∀ v : Int, v = τ q (12 + x) → (if j = x then v else σ q j) = if 0 ≤ j ∧ j < x + 1 then τ q (12 + j) else τ q j := fun v hv => by
      by_cases c1 : j = x
      · rw [if_pos c1, if_pos (by omega), hv, c1]
      · rw [if_neg c1, hr q hq j]
        by_cases c2 : 0 ≤ j ∧ j < x
        · rw [if_pos c2, if_pos (by omega)]
        · rw [if_neg c2, if_neg (by omega)]
    rcases hq with g | g | g | g | g <;> subst g
    · simp (disch := decide) only [gup_ne, gup_same]; exact fin _ (e _ (by decide))
    · simp (disch := decide) only [gup_ne, gup_same]; exact fin _ (e _ (by decide))
    · simp (disch := decide) only [gup_ne, gup_same]; exact fin _ (e _ (by decide))
    · simp (disch := decide) only [gup_ne, gup_same]; exact fin _ (e _ (by decide))
    · simp (disch := decide) only [gup_ne, gup_same]; exact fin _ (e _ (by decide))
theorem s_plan103 : gv (g_X12_plan_103 0) T τ (fun r τ' => r = τ (-6919) 0 ∧ gfr [76, 77, 78, 79, 80, 81, 82, 83] τ τ' ∧ (∀ q : Int, q = 76 ∨ q = 77 ∨ q = 78 → ∀ j : Int, 0 ≤ j → j < 64 → τ' q j = τ q (64 + j)) ∧ ∀ q : Int, q = 79 ∨ q = 80 ∨ q = 81 ∨ q = 82 ∨ q = 83 → ∀ j : Int, 0 ≤ j → j < 12 → τ' q j = τ q (12 + j)) := by
  unfold g_X12_plan_103
  refine gv_fx (fun (x : Int) σ => (0 ≤ x ∧ x ≤ 64) ∧ gfr [76, 77, 78] τ σ ∧ ∀ q : Int, q = 76 ∨ q = 77 ∨ q = 78 → ∀ j : Int, σ q j = if 0 ≤ j ∧ j < x then τ q (64 + j) else τ q j) (fun x _ => (64 - x).toNat) ⟨by omega, gfr.refl _ _, fun q _ j => by rw [if_neg (by omega)]⟩ (by decide) ?_
  intro rec x σ hI hrec
  obtain ⟨hx, hf, hr⟩ := hI
  unfold gB_X12_plan_103
  refine gv_cb ⟨⟨by omega, by omega⟩, ⟨by omega, by omega⟩⟩ (fun c => s_plan162.mono (fun r τ' hh => ⟨?_, ?_, fun q hq j a1 a2 => ?_, fun q hq j a1 a2 => ?_⟩)) (fun c => gv_al (by omega) (gv_as (by omega) (gv_al (by omega) (gv_as (by omega) (gv_al (by omega) (gv_as (by omega) (gv_let (hrec _ _ ⟨by omega, ?_, fun q hq j => ?_⟩ (by omega)))))))))
  · rw [hh.1, hf _ (by decide)]
  · exact (hf.mono (by decide)).trans (hh.2.1.mono (by decide))
  · rw [hh.2.1 q (by rcases hq with g | g | g <;> subst g <;> decide), hr q hq j, if_pos (by omega)]
  · rw [hh.2.2 q hq j a1 a2, hf q (by rcases hq with g | g | g | g | g <;> subst g <;> decide)]
  · exact ((hf.up (by decide)).up (by decide)).up (by decide)
  · have e : ∀ q : Int, q = 76 ∨ q = 77 ∨ q = 78 → σ q (64 + x) = τ q (64 + x) := fun q hq => by rw [hr q hq, if_neg (by omega)]
    have fin : ∀ v : Int, v = τ q (64 + x) → (if j = x then v else σ q j) = if 0 ≤ j ∧ j < x + 1 then τ q (64 + j) else τ q j := fun v hv => by
      by_cases c1 : j = x
      · rw [if_pos c1, if_pos (by omega), hv, c1]
      · rw [if_neg c1, hr q hq j]
        by_cases c2 : 0 ≤ j ∧ j < x
        · rw [if_pos c2, if_pos (by omega)]
        · rw [if_neg c2, if_neg (by omega)]
    rcases hq with g | g | g <;> subst g
    · simp (disch := decide) only [gup_ne, gup_same]; exact fin _ (e _ (by decide))
    · simp (disch := decide) only [gup_ne, gup_same]; exact fin _ (e _ (by decide))
    · simp (disch := decide) only [gup_ne, gup_same]; exact fin _ (e _ (by decide))
theorem s_plan64 (h : hT τ b n p) (hI : pI S) (h0 : S 0 0 = 0) (hL : rL τ S) (hR : RD b n p S R) : gv g_X12_plan_64 T τ (plQ τ R) := by
  unfold g_X12_plan_64
  have hz : ∀ (σ : gN) (p' : Int), hT σ b n p' → 0 ≤ σ (-6917) 0 ∧ σ (-6917) 0 ≤ n ∧ n ≤ 400 := fun σ p' g => by
    have := sc_in (b := b) g.2.2.2
    have := g.2.2.1
    have := g.1.1.2.2.2.2.2.1
    have := g.2.2.2
    omega
  refine gv_fx (fun (_ : Unit) σ => ∃ p' S', gfr wPl τ σ ∧ lo3 τ σ ∧ lo5 τ σ ∧ hT σ b n p' ∧ rL σ S' ∧ pI S' ∧ S' 0 0 = 0 ∧ RD b n p' S' R) (fun _ σ => (2 * (n + 1 - σ (-6917) 0)).toNat) ⟨p, S, gfr.refl _ _, lo3.refl _, lo5.refl _, h, hL, hI, h0, hR⟩ (by have := hz τ p h; omega) ?_
  intro rec _ σ hJ hrec
  obtain ⟨p', S', hf, hlo3, hlo5, hT', hL', hI', h0', hR'⟩ := hJ
  have hsc := sc_in (b := b) hT'.2.2.2
  have htk := hT'.2.1
  have hin := htk.in
  have hw : σ (-6915) 0 = 0 ↔ (sc b n p').1 = 0 := by
    unfold tkR at htk
    constructor <;> intro g <;> omega
  unfold gB_X12_plan_64
  refine gv_get (gv_cz (by omega) (fun c => gv_put (gv_get (gv_put (gv_get (gv_put ?_))))) (fun c => ?_))
  · have ck := hw.mp c
    have ef : fc S' (sc b n p').1 (sc b n p').2.1 = 0 := by unfold fc; rw [if_pos h0', if_pos ck]
    have hRe := hR'.ends hT'.2.2.2.2 ef ck
    rw [ck, nx_end h0'] at hRe
    obtain ⟨l1, l2, l3, l4, l5⟩ := hL'
    have e21 : gup σ (-6918) 0 1 (-6921) 0 = S' 7 0 := by rw [gup_ne (by decide)]; exact l2
    rw [e21]
    have e22 : gup (gup σ (-6918) 0 1) (-6919) 0 (S' 7 0) (-6922) 0 = S' 2 0 := by rw [gup_ne (by decide), gup_ne (by decide)]; exact l3
    rw [e22]
    generalize hρ : gup (gup (gup σ (-6918) 0 1) (-6919) 0 (S' 7 0)) (-6920) 0 (S' 2 0) = ρ
    have hfρ : gfr [-6918, -6919, -6920] σ ρ := by rw [← hρ]; exact (((gfr.refl _ _).up (by decide)).up (by decide)).up (by decide)
    have p18 : ρ (-6918) 0 = 1 := by rw [← hρ]; simp (disch := decide) only [gup_ne, gup_at]
    have p19 : ρ (-6919) 0 = S' 7 0 := by rw [← hρ]; simp (disch := decide) only [gup_ne, gup_at]
    have p20 : ρ (-6920) 0 = S' 2 0 := by rw [← hρ]; simp (disch := decide) only [gup_ne, gup_at]
    have b2 := hI'.1.2.1
    have b7 := hI'.1.1
    refine s_plan103.mono (fun r τ' hh => ?_)
    obtain ⟨q1, q2, q3, q4⟩ := hh
    rw [hRe]
    refine ⟨((hf.mono (by decide)).trans (hfρ.mono (by decide))).trans (q2.mono (by decide)), ?_, ?_, Or.inr ⟨rfl, by rw [q1, p19], ?_, ?_, ?_, fun i hi => ?_, fun i a1 a2 => ?_⟩⟩
    · rw [q2 _ (by decide), hfρ _ (by decide)]; exact hT'.1.2.1
    · rw [q2 _ (by decide), hfρ _ (by decide)]; exact hT'.1.2.2
    · rw [q2 _ (by decide)]; exact p18
    · rw [q2 _ (by decide)]; exact p19
    · rw [q2 _ (by decide)]; exact p20
    · dsimp only at hi ⊢
      have := l4 i hi
      unfold nOK at this
      unfold nOl
      rw [q3 76 (by decide) i (by omega) (by omega), q3 77 (by decide) i (by omega) (by omega), q3 78 (by decide) i (by omega) (by omega), hfρ 76 (by decide), hfρ 77 (by decide), hfρ 78 (by decide)]
      exact this
    · dsimp only at a2 ⊢
      have := l5 i a1 a2
      unfold lnR at this
      rw [q4 79 (by decide) i a1 (by omega), q4 80 (by decide) i a1 (by omega), q4 81 (by decide) i a1 (by omega), q4 82 (by decide) i a1 (by omega), q4 83 (by decide) i a1 (by omega), hfρ 79 (by decide), hfρ 80 (by decide), hfρ 81 (by decide), hfρ 82 (by decide), hfρ 83 (by decide)]
      exact this
  · have ck : ¬ (sc b n p').1 = 0 := fun g => c (hw.mpr g)
    refine gv_call (s_lineRead hT' hI' h0' hL' hR' ck) (fun r σ' hq => ?_)
    obtain ⟨q1, q2, q3, q4⟩ := hq
    rcases q4 with ⟨rfl, g1, g2, g3⟩ | ⟨rfl, p2, S2, g1, g2, g3, g4, g5, g6⟩
    · exact gv_cz (by decide) (fun g => absurd rfl g) (fun _ => gv_ret ⟨(hf.trans q1).mono (by decide), g2, g3, Or.inl ⟨g1, rfl, hlo3.trans q2, hlo5.trans q3, hf.trans q1⟩⟩)
    · refine gv_cz (by decide) (fun _ => hrec () σ' ⟨p2, S2, hf.trans q1, hlo3.trans q2, hlo5.trans q3, g2, g3, g4, g5, g6⟩ ?_) (fun g => absurd (by decide) g)
      have hlt := sc_lt hT'.2.2.2 ck
      have a1 := g2.2.2.1
      have a2 := hT'.2.2.1
      have a3 := sc_in (b := b) g2.2.2.2
      have a4 := hz σ' _ g2
      omega
theorem s_X12_plan {x : Int} (hx : -2147483648 ≤ x ∧ x ≤ 2147483647) (ht : 0 ≤ τ (-6901) 0 ∧ τ (-6901) 0 ≤ 400) (hb : ∀ i : Int, 0 ≤ i → i < 400 → τ 70 i = b i) (hbr : ∀ i : Int, 0 ≤ i → i < 400 → -2147483648 ≤ b i ∧ b i ≤ 2147483647) (hw : iWd τ) (hI : pI S) (h0 : S 0 0 = 0) (h1 : S 1 0 = 0) (h2 : S 2 0 = 0) (h7 : S 7 0 = 0) (hR : RD b x 0 S R) : gv (g_X12_plan x) T τ (fun r τ' => τ' (-6902) 0 = 0 ∧ ((¬ (0 ≤ x ∧ x ≤ τ (-6901) 0) ∧ r = -2 ∧ gfr [-6902] τ τ') ∨ ((0 ≤ x ∧ x ≤ τ (-6901) 0) ∧ τ' (-6901) 0 = 0 ∧ ∃ τ0, gfr [-6902, -6901, -6911, -6912, -6913, -6914, -6915, -6916, -6917, -6921, -6922, -6936] τ τ0 ∧ plQ τ0 R r τ'))) := by
  unfold g_X12_plan
  refine gv_put ?_
  have hf0 : gfr [-6902] τ (gup τ (-6902) 0 0) := (gfr.refl _ _).up (by decide)
  have e02 : gup τ (-6902) 0 0 (-6902) 0 = 0 := gup_at _ _ _ _
  generalize gup τ (-6902) 0 0 = τ1 at hf0 e02 ⊢
  refine gv_cz ⟨by omega, by omega⟩ (fun c => gv_ret ⟨e02, Or.inl ⟨by omega, rfl, hf0⟩⟩) (fun c => gv_get ?_)
  rw [hf0 (-6901) (by decide)]
  refine gv_cb ⟨⟨by omega, by omega⟩, ⟨by omega, by omega⟩⟩ (fun c2 => gv_put (gv_put (gv_put (gv_put (gv_put (gv_put (gv_put (gv_put ?_)))))))) (fun c2 => gv_ret ⟨e02, Or.inl ⟨by omega, rfl, hf0⟩⟩)
  generalize hσ : gup (gup (gup (gup (gup (gup (gup (gup τ1 (-6913) 0 x) (-6901) 0 0) (-6911) 0 0) (-6912) 0 (-1)) (-6914) 0 0) (-6921) 0 0) (-6922) 0 0) (-6936) 0 0 = σ
  have hfσ : gfr [-6901, -6911, -6912, -6913, -6914, -6921, -6922, -6936] τ1 σ := by rw [← hσ]; exact ((((((((gfr.refl _ _).up (by decide)).up (by decide)).up (by decide)).up (by decide)).up (by decide)).up (by decide)).up (by decide)).up (by decide)
  have v13 : σ (-6913) 0 = x := by rw [← hσ]; simp (disch := decide) only [gup_ne, gup_at]
  have v01 : σ (-6901) 0 = 0 := by rw [← hσ]; simp (disch := decide) only [gup_ne, gup_at]
  have v11 : σ (-6911) 0 = 0 := by rw [← hσ]; simp (disch := decide) only [gup_ne, gup_at]
  have v12 : σ (-6912) 0 = -1 := by rw [← hσ]; simp (disch := decide) only [gup_ne, gup_at]
  have v14 : σ (-6914) 0 = 0 := by rw [← hσ]; simp (disch := decide) only [gup_ne, gup_at]
  have v21 : σ (-6921) 0 = 0 := by rw [← hσ]; simp (disch := decide) only [gup_ne, gup_at]
  have v22 : σ (-6922) 0 = 0 := by rw [← hσ]; simp (disch := decide) only [gup_ne, gup_at]
  have v36 : σ (-6936) 0 = 0 := by rw [← hσ, gup_at]
  have hs : srI σ b x 0 := by
    refine ⟨fun i a1 a2 => ?_, ?_, v13, v14, by omega, by omega, hbr⟩
    · rw [hfσ 70 (by decide), hf0 70 (by decide)]; exact hb i a1 a2
    · unfold iWd at hw ⊢; rw [hfσ 75 (by decide), hf0 75 (by decide)]; exact hw
  refine gv_call (s_X12_take hs) (fun _ τ2 hh => ?_)
  obtain ⟨f, q1, q2, q3⟩ := hh
  have hsc := sc_in (b := b) (n := x) (p := 0) (by omega)
  have hT2 : hT τ2 b x 0 := by
    obtain ⟨a1, a2, a3, a4, a5, a6, a7⟩ := hs
    refine ⟨⟨⟨?_, ?_, ?_, q3, by omega, a6, a7⟩, by rw [f _ (by decide)]; exact v11, by rw [f _ (by decide)]; exact v12⟩, q1, q2, by omega⟩
    · intro i c1 c2; rw [f 70 (by decide)]; exact a1 i c1 c2
    · unfold iWd at a2 ⊢; rw [f 75 (by decide)]; exact a2
    · rw [f _ (by decide)]; exact a3
  have hL2 : rL τ2 S := ⟨by rw [f _ (by decide), h1]; exact v36, by rw [f _ (by decide), h7]; exact v21, by rw [f _ (by decide), h2]; exact v22, fun i hi => by omega, fun i a1 a2 => by omega⟩
  refine (s_plan64 hT2 hI h0 hL2 hR).mono (fun r τ' hq => ⟨?_, Or.inr ⟨by omega, ?_, τ2, ((hf0.mono (by decide)).trans (hfσ.mono (by decide))).trans (f.mono (by decide)), hq⟩⟩)
  · rw [hq.1 _ (by decide), f _ (by decide), hfσ _ (by decide)]; exact e02
  · rw [hq.1 _ (by decide), f _ (by decide)]; exact v01
end
