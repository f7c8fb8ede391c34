/-! TRIAL: the reference's run -/
def tQ (τ P : gN) : Prop := τ 86 0 = P 0 0 ∧ τ 86 1 = P 1 0 ∧ τ 86 3 = nmv P 3 ∧ τ 86 4 = nmv P 4 ∧ τ 86 5 = nmv P 5 ∧ (∀ k : Int, 0 ≤ k → k < 3 → τ 86 (6 + k) = P 2 k) ∧ τ (-6943) 0 = P 3 0 ∧ τ (-6944) 0 = P 5 0 ∧ τ (-6945) 0 = P 4 0 ∧ (∀ i : Int, 0 ≤ i → i < P 3 0 → τ 88 i = P 6 i ∧ τ 89 i = P 7 i ∧ τ 90 i = P 8 i)
def wTq : List Int := [86, 87, 88, 89, 90, -6941, -6942, -6943, -6944, -6945, -6946]
section
variable {T : gT} {ν τ D S P R : gN} {t : Int}
theorem tQ.fr {τ' : gN} {L : List Int} (h : tQ τ P) (hf : gfr L τ τ') (hd : ∀ x ∈ ([86, 88, 89, 90, -6943, -6944, -6945] : List Int), x ∉ L) : tQ τ' P := by
  unfold tQ
  rw [hf 86 (hd _ (by decide)), hf 88 (hd _ (by decide)), hf 89 (hd _ (by decide)), hf 90 (hd _ (by decide)), hf (-6943) (hd _ (by decide)), hf (-6944) (hd _ (by decide)), hf (-6945) (hd _ (by decide))]
  exact h
theorem tQ_up (h : tQ τ P) {r j v : Int} (hr : 9 ≤ r) : tQ τ (gup P r j v) := by
  unfold tQ nmv
  rw [gup_ne (b := 0) (by omega), gup_ne (b := 1) (by omega), gup_ne (b := 2) (by omega), gup_ne (b := 3) (by omega), gup_ne (b := 4) (by omega), gup_ne (b := 5) (by omega), gup_ne (b := 6) (by omega), gup_ne (b := 7) (by omega), gup_ne (b := 8) (by omega)]
  exact h
theorem s_lets {k s : Int} (h : tQ τ P) (hp : pT P) (hD : iSt τ) (ht : 0 ≤ t ∧ t ≤ 40) (hk : 0 ≤ k ∧ k < 3) (hs : 1 ≤ s ∧ s ≤ 40) (hc : P 3 0 < 200) (hl : 0 < P 2 k) (e3 : D 3 = τ 3) (e5 : D 5 = τ 5) (e204 : D (-204) = τ (-204)) (e205 : D (-205) = τ (-205)) : gv (g_X12_lets t k s) T τ (fun _ τ' => gfr wTq τ τ' ∧ tQ τ' (fal D t P k s) ∧ τ' (-6942) = τ (-6942) ∧ τ' (-6946) = τ (-6946)) := by
  obtain ⟨h0, h1, h3, h4, h5, h6, h43, h44, h45, h88⟩ := h
  obtain ⟨q0, q1, q2, q3, q4, q5, q6, q7, q8, _, _⟩ := fal_r (D := D) (P := P) (t := t) (k := k) (s := s)
  have p1 := hp.1
  have p2 := hp.2.1
  have p3 := hp.2.2.1
  have p5 := hp.2.2.2.2.1
  have hd := hD.2.1 k hk.1 hk.2
  have hq := hD.2.2.2.2.2.2.1 k hk.1 hk.2
  have h204 := hD.2.2.2.1
  have h205 := hD.2.2.2.2.1
  have e08 := hD.2.2.2.2.2.2.2.2.1
  have e09 := hD.2.2.2.2.2.2.2.2.2
  have hmul : 0 ≤ τ (-205) 0 * s ∧ τ (-205) 0 * s ≤ 9 * 40 := ⟨Int.mul_nonneg h205.1 (by omega), Int.mul_le_mul h205.2 hs.2 (by omega) (by decide)⟩
  have hb : brk D t k s = if s ≤ t + τ 71 k then 0 else 1 := by unfold brk; rw [e3, hq.1]
  have hb01 := brk01 (D := D) (t := t) (k := k) (s := s)
  have hb2 : (if brk D t k s = 0 then (0 : Int) else 1) = brk D t k s := by rcases hb01 with e | e <;> rw [e] <;> rfl
  generalize hbb : brk D t k s = b at *
  have n3 : nmv (fal D t P k s) 3 = P 3 0 + 1 := q3
  have n4 : nmv (fal D t P k s) 4 = s := by
    show (if 0 < fal D t P k s 3 0 then fal D t P k s 7 (fal D t P k s 3 0 - 1) else 0) = s
    rw [q3, if_pos (by omega), q7, if_pos (by omega)]
  have n5 : nmv (fal D t P k s) 5 = b := by
    show (if 0 < fal D t P k s 3 0 then fal D t P k s 8 (fal D t P k s 3 0 - 1) else 0) = b
    rw [q3, if_pos (by omega), q8, if_pos (by omega)]
  -- the last part, from a state with the new low, high and left
  have h200 : ∀ (σ : gN) (lo hi : Int), gfr wTq τ σ → σ (-6942) = τ (-6942) → σ (-6946) = τ (-6946) → σ (-6943) 0 = P 3 0 + 1 → σ (-6945) 0 = fal D t P k s 4 0 → σ (-6944) 0 = fal D t P k s 5 0 → (∀ i : Int, 0 ≤ i → i < P 3 0 + 1 → σ 88 i = fal D t P k s 6 i ∧ σ 89 i = fal D t P k s 7 i ∧ σ 90 i = fal D t P k s 8 i) → σ 86 0 = fal D t P k s 0 0 → σ 86 1 = fal D t P k s 1 0 → (∀ j : Int, 0 ≤ j → j < 3 → σ 86 (6 + j) = fal D t P k s 2 j) → gv (g_X12_lets_200 s b) T σ (fun _ τ' => gfr wTq τ τ' ∧ tQ τ' (fal D t P k s) ∧ τ' (-6942) = τ (-6942) ∧ τ' (-6946) = τ (-6946)) := fun σ lo hi g1 g2 g3 g4 g5 g6 g7 g8 g9 g10 => by
    unfold g_X12_lets_200
    refine gv_get ?_
    rw [g4]
    refine gv_ck (by unfold hf_inI; omega) (gv_as (by decide) (gv_ck (by unfold hf_inI; omega) (gv_as (by decide) (gv_ck (by unfold hf_inI; omega) (gv_let ?_)))))
    rw [hb2]
    refine gv_as (by decide) (gv_ret ⟨((g1.up (by decide)).up (by decide)).up (by decide), ⟨?_, ?_, ?_, ?_, ?_, fun j a c => ?_, ?_, ?_, ?_, fun i a c => ?_⟩, ?_, ?_⟩)
    · simp only [gup_same]; simp (disch := decide) only [if_neg]; exact g8
    · simp only [gup_same]; simp (disch := decide) only [if_neg]; exact g9
    · rw [n3]; simp only [gup_same]; simp (disch := decide) only [if_neg, if_pos]
    · rw [n4]; simp only [gup_same]; simp (disch := decide) only [if_neg, if_pos]
    · rw [n5]; simp only [gup_same]; simp (disch := decide) only [if_pos]
    · rw [gup_same, if_neg (by omega), gup_same, if_neg (by omega), gup_same, if_neg (by omega)]; exact g10 j a c
    · simp (disch := decide) only [gup_ne]; rw [g4, q3]
    · simp (disch := decide) only [gup_ne]; exact g6
    · simp (disch := decide) only [gup_ne]; exact g5
    · rw [q3] at c
      simp (disch := decide) only [gup_ne]; exact g7 i a c
    · simp (disch := decide) only [gup_ne]; exact g2
    · simp (disch := decide) only [gup_ne]; exact g3
  unfold g_X12_lets
  refine gv_ck (by unfold hf_inI; omega) (gv_rd (d_X12_breaks hk (by omega) (by omega) (by rw [hq.1]; exact hd.1)) ?_)
  rw [← hb]
  refine gv_get (gv_as (by omega) (gv_get ?_))
  simp (disch := decide) only [gup_ne]
  refine gv_as (by omega) (gv_get ?_)
  simp (disch := decide) only [gup_ne]
  refine gv_ck (by unfold hf_inI; omega) (gv_let ?_)
  rw [hb2]
  refine gv_as (by omega) (gv_get (gv_put (gv_get (gv_get (gv_get ?_)))))
  simp (disch := decide) only [gup_ne]
  rw [h43, h45, e08, e09]
  generalize hσ : gup (gup (gup (gup τ 88 (P 3 0) k) 89 (P 3 0) s) 90 (P 3 0) b) (-6943) 0 (P 3 0 + 1) = σ
  have fσ : gfr [88, 89, 90, -6943] τ σ := by rw [← hσ]; exact ((((gfr.refl _ _).up (by decide)).up (by decide)).up (by decide)).up (by decide)
  have v43 : σ (-6943) 0 = P 3 0 + 1 := by rw [← hσ, gup_at]
  have vrow : ∀ i : Int, 0 ≤ i → i < P 3 0 + 1 → σ 88 i = fal D t P k s 6 i ∧ σ 89 i = fal D t P k s 7 i ∧ σ 90 i = fal D t P k s 8 i := fun i a c => by
    rw [← hσ, q6, q7, q8]
    simp (disch := decide) only [gup_ne, gup_same]
    by_cases e : i = P 3 0
    · refine ⟨?_, ?_, ?_⟩ <;> simp only [if_pos e]
    · have := h88 i a (by omega)
      refine ⟨?_, ?_, ?_⟩ <;> simp only [if_neg e]
      · exact this.1
      · exact this.2.1
      · exact this.2.2
  -- the middle
  have h90 : ∀ pc : Int, pc = (if b = 0 then 0 else D 5 k) → (0 ≤ pc ∧ pc ≤ 99) → gv (g_X12_lets_90 k s b (P 4 0) (τ (-204) 0 + τ (-205) 0 * s) pc) T σ (fun _ τ' => gfr wTq τ τ' ∧ tQ τ' (fal D t P k s) ∧ τ' (-6942) = τ (-6942) ∧ τ' (-6946) = τ (-6946)) := fun pc hpc hpr => by
    unfold g_X12_lets_90
    refine gv_ck (by unfold hf_inI; omega) (gv_put (gv_al hk ?_))
    have e71 : gup σ (-6945) 0 (P 4 0 + (τ (-204) 0 + τ (-205) 0 * s + pc)) 71 k = τ 3 k := by rw [gup_ne (by decide), fσ _ (by decide)]; exact hq.1
    rw [e71]
    refine gv_ck (by unfold hf_inI; omega) (gv_let ?_)
    have v45 : gup σ (-6945) 0 (P 4 0 + (τ (-204) 0 + τ (-205) 0 * s + pc)) (-6945) 0 = fal D t P k s 4 0 := by rw [gup_at, q4, hpc, e204, e205]
    have fρ : gfr [-6945] σ (gup σ (-6945) 0 (P 4 0 + (τ (-204) 0 + τ (-205) 0 * s + pc))) := (gfr.refl _ _).up (by decide)
    generalize gup σ (-6945) 0 (P 4 0 + (τ (-204) 0 + τ (-205) 0 * s + pc)) = ρ at v45 fρ ⊢
    have fρτ : gfr [88, 89, 90, -6943, -6945] τ ρ := (fσ.mono (by decide)).trans (fρ.mono (by decide))
    have w86 : ρ 86 = τ 86 := fρτ 86 (by decide)
    refine gv_cz (by omega) (fun c0 => gv_al (by decide) ?_) (fun c0 => gv_get (gv_put (gv_al (by omega) ?_)))
    · rw [w86, h0]
      have go : ∀ lo : Int, lo = max (P 0 0) (s - τ 3 k) → gv (g_X12_lets_199 s b 0 lo) T ρ (fun _ τ' => gfr wTq τ τ' ∧ tQ τ' (fal D t P k s) ∧ τ' (-6942) = τ (-6942) ∧ τ' (-6946) = τ (-6946)) := fun lo hlo => by
        unfold g_X12_lets_199
        refine gv_as (by decide) (h200 _ lo lo ((fρτ.mono (by decide)).up (by decide)) ?_ ?_ ?_ ?_ ?_ (fun i a c => ?_) ?_ ?_ (fun j a c => ?_))
        · rw [gup_ne (by decide)]; exact fρτ _ (by decide)
        · rw [gup_ne (by decide)]; exact fρτ _ (by decide)
        · rw [gup_ne (by decide), fρ _ (by decide)]; exact v43
        · rw [gup_ne (by decide)]; exact v45
        · rw [gup_ne (by decide), fρτ _ (by decide), q5, h44, c0]; omega
        · simp (disch := decide) only [gup_ne]; rw [fρ 88 (by decide), fρ 89 (by decide), fρ 90 (by decide)]; exact vrow i a c
        · rw [gup_at, q0, if_pos c0, hlo, e3]
        · rw [gup_same, if_neg (by decide), w86, q1, if_pos c0]; exact h1
        · rw [gup_same, if_neg (by omega), w86, q2, h6 j a c]
          split
          · next e => rw [e, c0]; omega
          · rfl
      refine gv_cl (by omega) (fun cl => gv_al (by decide) ?_) (fun cl => go _ (by omega))
      rw [w86, h0]
      exact go _ (by omega)
    · have hb1 : b = 1 := by omega
      have w44 : ρ (-6944) 0 = P 5 0 := by rw [fρτ _ (by decide)]; exact h44
      rw [w44]
      simp (disch := decide) only [gup_ne]
      rw [w86, h6 k hk.1 hk.2]
      refine gv_as (by omega) (gv_al (by decide) ?_)
      generalize hπ : gup (gup ρ (-6944) 0 (P 5 0 + 1)) 86 (6 + k) (P 2 k - 1) = π
      have fπ : gfr [-6944, 86] ρ π := by rw [← hπ]; exact ((gfr.refl _ _).up (by decide)).up (by decide)
      have x86 : ∀ j : Int, π 86 j = if j = 6 + k then P 2 k - 1 else τ 86 j := fun j => by rw [← hπ, gup_same, gup_ne (by decide), w86]
      have x44 : π (-6944) 0 = P 5 0 + 1 := by rw [← hπ, gup_ne (by decide), gup_at]
      have x1 : π 86 1 = P 1 0 := by rw [x86, if_neg (by omega)]; exact h1
      rw [x1]
      have go : ∀ hi : Int, hi = min (P 1 0) (s - τ 3 k - 1) → gv (g_X12_lets_167 s b 1 hi) T π (fun _ τ' => gfr wTq τ τ' ∧ tQ τ' (fal D t P k s) ∧ τ' (-6942) = τ (-6942) ∧ τ' (-6946) = τ (-6946)) := fun hi hhi => by
        unfold g_X12_lets_167
        have fπτ : gfr [88, 89, 90, -6943, -6945, -6944, 86] τ π := (fρτ.mono (by decide)).trans (fπ.mono (by decide))
        refine gv_as (by decide) (h200 _ hi hi ((fπτ.mono (by decide)).up (by decide)) ?_ ?_ ?_ ?_ ?_ (fun i a c => ?_) ?_ ?_ (fun j a c => ?_))
        · rw [gup_ne (by decide)]; exact fπτ _ (by decide)
        · rw [gup_ne (by decide)]; exact fπτ _ (by decide)
        · rw [gup_ne (by decide), fπ _ (by decide), fρ _ (by decide)]; exact v43
        · rw [gup_ne (by decide), fπ _ (by decide)]; exact v45
        · rw [gup_ne (by decide), x44, q5, hb1]
        · simp (disch := decide) only [gup_ne]; rw [fπ 88 (by decide), fπ 89 (by decide), fπ 90 (by decide), fρ 88 (by decide), fρ 89 (by decide), fρ 90 (by decide)]; exact vrow i a c
        · rw [gup_same, if_neg (by decide), x86, if_neg (by omega), q0, if_neg c0]; exact h0
        · rw [gup_at, q1, if_neg c0, hhi, e3]
        · rw [gup_same, if_neg (by omega), x86, q2]
          by_cases e : j = k
          · rw [if_pos (by omega), if_pos e, hb1]
          · rw [if_neg (by omega), if_neg e]; exact h6 j a c
      refine gv_cl (by omega) (fun cl => gv_al (by decide) ?_) (fun cl => go _ (by omega))
      rw [x1]
      exact go _ (by omega)
  refine gv_cz (by omega) (fun c0 => h90 0 (by rw [if_pos c0]) (by decide)) (fun c0 => gv_al hk ?_)
  have e73 : σ 73 k = τ 5 k := by rw [fσ _ (by decide)]; exact hq.2.2
  rw [e73]
  exact h90 _ (by rw [if_neg c0, e5]) hd.2.2
end
