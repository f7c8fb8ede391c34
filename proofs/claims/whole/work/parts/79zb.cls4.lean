/-! PLAN: the class's reader, all tokens -/
theorem cm_out {pl : Int} (h : pl = 18 ∨ pl = 23) {b : Int} (h1 : ∀ a : Fin 14, b ≠ cm 18 (a.val : Int) ∧ b ≠ cm 23 (a.val : Int)) : ∀ r : Int, 0 ≤ r → r ≤ 13 → b ≠ cm pl r := by
  intro r a1 a2 e
  have := h1 ⟨r.toNat, by omega⟩
  dsimp only at this
  rw [show (r.toNat : Int) = r by omega] at this
  rcases h with g | g <;> subst g
  · exact this.1 e
  · exact this.2 e
theorem cm_sc {pl : Int} (h : pl = 18 ∨ pl = 23) {r : Int} (h1 : 0 ≤ r ∧ r ≤ 13) : cm pl r ∉ ([-902, -903, -904, -905, -811, -812, -(100 * pl + 1)] : List Int) := by
  have key : ∀ p, p = 18 ∨ p = 23 → ∀ a : Fin 14, cm p (a.val : Int) ∉ ([-902, -903, -904, -905, -811, -812, -(100 * p + 1)] : List Int) := by
    intro p hp
    rcases hp with e | e <;> subst e <;> decide
  have := key pl h ⟨r.toNat, by omega⟩
  dsimp only at this
  rw [show (r.toNat : Int) = r by omega] at this
  exact this
def fR (pl : Int) (ν τ : gN) : Prop := ∀ b : Int, (∀ r : Int, 0 ≤ r → r ≤ 13 → b ≠ cm pl r) → b ∉ ([-902, -903, -904, -905, -811, -812, -(100 * pl + 1)] : List Int) → τ b = ν b
section
variable {T : gT} {ν S : gN} {pl : Int} {b : Int → Int} {n : Int} {R : Int × Int × gN}
theorem cI.sc (h : cI ν ν pl S) {τ : gN} (hf : gfr wSc ν τ) : cI τ τ pl S := by
  obtain ⟨h1, h2, h3, h4⟩ := h
  refine ⟨h1, by rw [hf _ (by decide)]; exact h2, fun r a1 a2 => ?_, fun b _ => rfl⟩
  rw [hf _ (fun g => cm_sc h1 ⟨a1, a2⟩ ?_)]
  · exact h3 r a1 a2
  · simp only [wSc, List.mem_cons, List.not_mem_nil, or_false] at g
    simp only [List.mem_cons, List.not_mem_nil, or_false]
    omega
theorem fR.sc {σ τ : gN} (h : fR pl ν σ) (hf : gfr wSc σ τ) : fR pl ν τ := fun b h1 h2 => by
  rw [hf b (fun g => h2 ?_)]
  · exact h b h1 h2
  · simp only [wSc, List.mem_cons, List.not_mem_nil, or_false] at g
    simp only [List.mem_cons, List.not_mem_nil, or_false]
    omega
theorem fc_end {v : Int} (h : pI S) (hf : fc S 0 v = 0) : S 0 0 = 0 := by
  obtain ⟨hL, h⟩ := h
  unfold fc at hf
  rcases h with h | h | h | h
  · exact h.1
  · have := h.1
    rw [if_neg (by omega), if_pos (by omega), if_neg (by decide)] at hf
    omega
  · have := h.1
    rw [if_neg (by omega), if_neg (by omega), if_pos (by omega), if_neg (by decide), if_neg (by decide), if_neg (by decide)] at hf
    omega
  · have := h.1
    rw [if_neg (by omega), if_neg (by omega), if_neg (by omega), if_neg (by decide), if_neg (by omega), if_neg (by decide)] at hf
    revert hf
    repeat' split
    all_goals omega
theorem nx_end {v : Int} (h : S 0 0 = 0) : nx S 0 v = S := by unfold nx; rw [if_pos h, if_pos rfl]
/-- the class's reading ends as the function says -/
theorem s_read49 (hc : cI ν ν pl S) (hI : pI S) (hs : scI ν b n 0) (hR : RD b n 0 S R) (h11 : ν (-811) 0 = 0) (h12 : ν (-812) 0 = -1) : gv (g_X5_read_49 n 0) T ν (fun _ ν' => fR pl ν ν' ∧ ν' (-811) 0 = R.1 ∧ ν' (-812) 0 = R.2.1 ∧ (R.1 = 0 → pI R.2.2 ∧ R.2.2 0 0 = 0 ∧ (∀ r : Int, 0 ≤ r → r ≤ 13 → ν' (cm pl r) = R.2.2 r) ∧ ν' (-(100 * pl + 1)) 0 = R.2.2 1 0)) := by
  have hn := hs.2.2.2.2
  unfold g_X5_read_49
  refine gv_fx (fun (x : Int) τ => ∃ p S', cI τ τ pl S' ∧ pI S' ∧ scI τ b n p ∧ RD b n p S' R ∧ (0 ≤ x ∧ x ≤ p) ∧ τ (-811) 0 = 0 ∧ τ (-812) 0 = -1 ∧ fR pl ν τ) (fun x _ => (n + 1 - x).toNat) ⟨0, S, hc, hI, hs, hR, by omega, h11, h12, fun _ _ _ => rfl⟩ (by omega) ?_
  intro rec x τ hI' hrec
  obtain ⟨p, S', hc', hI', hs', hR', hx, g11, g12, hf⟩ := hI'
  have hp := hs'.2.2.2.2.1
  have hsc := sc_in (b := b) hp
  have hpl := hc'.1
  unfold gB_X5_read_49
  refine gv_cb ⟨⟨by omega, by omega⟩, ⟨by omega, by omega⟩⟩ (fun c => by omega) (fun c => ?_)
  refine gv_call (s_X9_advance hs') (fun _ ν1 h1 => gv_get ?_)
  obtain ⟨f1, e3, e5, e4, e2⟩ := h1
  rw [e3]
  have hc1 := hc'.sc f1
  refine gv_call (s_take hc1 hI' hsc.1 e5 hsc.2.1) (fun r ν2 h2 => gv_put (gv_get ?_))
  obtain ⟨rfl, q1, q2⟩ := h2
  rw [gup_at]
  have fcr : 0 ≤ fc S' (sc b n p).1 (sc b n p).2.1 ∧ fc S' (sc b n p).1 (sc b n p).2.1 ≤ 2 := by
    unfold fc
    repeat' split
    all_goals omega
  have fr1 : fR pl ν ν1 := hf.sc f1
  refine gv_cz (by omega) (fun c0 => gv_get ?_) (fun c0 => gv_get (gv_put (gv_ret ?_)))
  · have hc2 := q1 c0
    have o1 : ∀ b : Int, (∀ a : Fin 14, b ≠ cm 18 (a.val : Int) ∧ b ≠ cm 23 (a.val : Int)) → ν2 b = ν1 b := fun b hb => hc2.2.2.2 b (cm_out hpl hb)
    generalize hσ : gup ν2 (-811) 0 (fc S' (sc b n p).1 (sc b n p).2.1) = σ
    have s1 : ∀ b : Int, b ≠ -811 → σ b = ν2 b := fun b hb => by rw [← hσ]; exact gup_ne hb
    have s11 : σ (-811) 0 = 0 := by rw [← hσ, gup_at]; exact c0
    rw [s1 _ (by decide), o1 (-903) (by decide), e3]
    have hcσ : cI σ σ pl (nx S' (sc b n p).1 (sc b n p).2.1) := by
      obtain ⟨a1, a2, a3, a4⟩ := hc2
      refine ⟨a1, by rw [s1 _ (by decide)]; exact a2, fun r b1 b2 => ?_, fun _ _ => rfl⟩
      rw [s1 _ (fun g => cm_sc hpl ⟨b1, b2⟩ (by rw [g]; simp))]; exact a3 r b1 b2
    have hIn := pI_nx hI' c0 hsc.1 hsc.2.1
    have frσ : fR pl ν σ := fun b' b1 b2 => by
      rw [s1 b' (fun g => b2 (by rw [g]; simp)), hc2.2.2.2 b' b1]
      exact fr1 b' b1 b2
    have s12 : σ (-812) 0 = -1 := by rw [s1 _ (by decide), o1 (-812) (by decide), f1 _ (by decide)]; exact g12
    refine gv_cz (by omega) (fun ck => gv_let (hrec _ σ ⟨(sc b n p).2.2.2, _, hcσ, hIn, ?_, hR'.step hp c0 ck, by omega, s11, s12, frσ⟩ (by omega))) (fun ck => ?_)
    · obtain ⟨b7, b9, b1, b2, b3, b4, b5⟩ := hs'
      refine ⟨?_, ?_, ?_, ?_, by omega, b4, b5⟩
      · rw [s1 _ (by decide), o1 7 (by decide), f1 _ (by decide)]; exact b7
      · rw [s1 _ (by decide), o1 (-900) (by decide), f1 _ (by decide)]; exact b9
      · rw [s1 _ (by decide), o1 (-901) (by decide), f1 _ (by decide)]; exact b1
      · rw [s1 _ (by decide), o1 (-902) (by decide)]; exact e2
    · have ck' : (sc b n p).1 = 0 := by omega
      have hRe := hR'.ends hp.2 c0 ck'
      rw [ck'] at c0 hRe hcσ
      have h00 := fc_end hI' c0
      rw [nx_end h00] at hRe hcσ
      unfold g_X5_read_115
      refine gv_get (gv_get (gv_ck (by rw [hcσ.pq]; exact hpl) (gv_put (gv_ret ?_))))
      rw [hcσ.pq, hcσ.r1, hRe]
      have n11 : ∀ b' : Int, b' ∈ ([-811, -812] : List Int) → b' ≠ -(100 * pl + 1) := fun b' hb => by
        simp only [List.mem_cons, List.not_mem_nil, or_false] at hb
        omega
      refine ⟨fun b' b1 b2 => ?_, ?_, ?_, fun _ => ⟨hI', h00, fun r b1 b2 => ?_, gup_at _ _ _ _⟩⟩
      · rw [gup_ne (fun g => b2 (by rw [g]; simp))]; exact frσ b' b1 b2
      · rw [gup_ne (n11 _ (by simp))]; exact s11
      · rw [gup_ne (n11 _ (by simp))]; exact s12
      · rw [gup_ne (fun g => cm_sc hpl ⟨b1, b2⟩ (by rw [g]; simp))]; exact hcσ.2.2.1 r b1 b2
  · have e2' := q2 c0
    subst e2'
    have hRe := hR'.fault hp.2 c0
    rw [hRe]
    refine ⟨fun b' b1 b2 => ?_, ?_, ?_, fun g => absurd g c0⟩
    · rw [gup_ne (fun g => b2 (by rw [g]; simp)), gup_ne (fun g => b2 (by rw [g]; simp))]; exact fr1 b' b1 b2
    · rw [gup_ne (by decide), gup_at]
    · rw [gup_at, gup_ne (by decide), e4]
end
