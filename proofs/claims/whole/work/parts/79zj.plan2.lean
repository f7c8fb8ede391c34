/-! PLAN: both sides -/
def wCl (ps : Int) : List Int := [-806, -804, -805, -803, -807, -809, -810, -(100 * ps + 0), ps + 4, 16, 17, ps + 1, ps + 2, ps + 3, -902, -903, -904, -905, -811, -812, -(100 * ps + 1), -801, -900, -901]
theorem cm_mem {pl : Int} (h : pl = 18 ∨ pl = 23) {r : Int} (h1 : 0 ≤ r ∧ r ≤ 13) : cm pl r ∈ wCl pl := by
  have key : ∀ p, p = 18 ∨ p = 23 → ∀ a : Fin 14, cm p (a.val : Int) ∈ wCl p := by
    intro p hp
    rcases hp with e | e <;> subst e <;> decide
  have := key pl h ⟨r.toNat, by omega⟩
  dsimp only at this
  rw [show (r.toNat : Int) = r by omega] at this
  exact this
/-- the class's plan a beside rows -/
def pRw (ν : gN) (a : Int) (S : gN) : Prop := ν (-(100 * a + 0)) 0 = S 7 0 ∧ ν (-(100 * a + 1)) 0 = S 2 0 ∧ ν (a + 4) = S 8 ∧ ν (a + 1) = S 11 ∧ ν (a + 2) = S 12 ∧ ν (a + 3) = S 13
def iPl (ν : gN) : Prop := ((ν (-104) 0 = 18 ∧ ν (-105) 0 = 23) ∨ (ν (-104) 0 = 23 ∧ ν (-105) 0 = 18)) ∧ (ν (-6911) 0 = ν (-811) 0 ∧ ν (-6912) 0 = ν (-812) 0 ∧ (0 ≤ ν (-811) 0 ∧ ν (-811) 0 ≤ 2) ∧ (-1 ≤ ν (-812) 0 ∧ ν (-812) 0 ≤ 400)) ∧ (ν (-6918) 0 = ν (-106) 0 ∧ (ν (-106) 0 = 0 ∨ ν (-106) 0 = 1)) ∧ ν (-6919) 0 = ν (-(100 * ν (-104) 0 + 0)) 0 ∧ ν (-6920) 0 = ν (-(100 * ν (-104) 0 + 1)) 0 ∧ ∃ S, pRw ν (ν (-104) 0) S ∧ pL S ∧ rowsP ν S
def wPn : List Int := [-806, -804, -805, -803, -807, -809, -810, 16, 17, -1800, -1801, 19, 20, 21, 22, -2300, -2301, 24, 25, 26, 27, -902, -903, -904, -905, -811, -812, -801, -900, -901, -102, -104, -105, -106, -6901, -6902, -6913, -6918, -6919, -6920, 76, 77, 78, 79, 80, 81, 82, 83, 84, 85, -6911, -6912, -6914, -6915, -6916, -6917, -6921, -6922, -6933, -6934, -6935, -6936, -6937, -6938]
section
variable {T : gT} {ν : gN} {b : Int → Int} {x ps : Int}
theorem RD_in {S : gN} {R : Int × Int × gN} {n : Int} : ∀ (f : Nat) (p : Int) (S : gN), 0 ≤ p ∧ p ≤ n → rdl b n f p S = R → (0 ≤ R.1 ∧ R.1 ≤ 2) ∧ (-1 ≤ R.2.1 ∧ R.2.1 ≤ n) := by
  intro f
  induction f with
  | zero => intro p S hp h; rw [← h]; exact ⟨⟨Int.le_refl _, by show (0 : Int) ≤ 2; omega⟩, by show (-1 : Int) ≤ -1; omega, by show (-1 : Int) ≤ n; omega⟩
  | succ f ih =>
    intro p S hp h
    have hsc := sc_in (b := b) hp
    unfold rdl at h
    by_cases c : ¬ fc S (sc b n p).1 (sc b n p).2.1 = 0
    · rw [if_pos c] at h
      rw [← h]
      refine ⟨?_, by dsimp only; omega⟩
      dsimp only
      unfold fc
      repeat' split
      all_goals omega
    · rw [if_neg c] at h
      by_cases c2 : (sc b n p).1 = 0
      · rw [if_pos c2] at h
        rw [← h]; exact ⟨⟨Int.le_refl _, by show (0 : Int) ≤ 2; omega⟩, by show (-1 : Int) ≤ -1; omega, by show (-1 : Int) ≤ n; omega⟩
      · rw [if_neg c2] at h
        exact ih _ _ (by omega) h
theorem s_X5_read (hps : ps = 18 ∨ ps = 23) (hx : 0 ≤ x ∧ x ≤ 400) (hb : ν 7 = b) (hbr : ∀ i : Int, 0 ≤ i → i < 400 → -2147483648 ≤ b i ∧ b i ≤ 2147483647) : gv (g_X5_read x ps) T ν (fun _ ν' => gfr (wCl ps) ν ν' ∧ ∃ S R, pI S ∧ S 0 0 = 0 ∧ S 1 0 = 0 ∧ S 2 0 = 0 ∧ S 7 0 = 0 ∧ RD b x 0 S R ∧ ((0 ≤ R.1 ∧ R.1 ≤ 2) ∧ (-1 ≤ R.2.1 ∧ R.2.1 ≤ x)) ∧ ν' (-811) 0 = R.1 ∧ ν' (-812) 0 = R.2.1 ∧ (R.1 = 0 → pI R.2.2 ∧ R.2.2 0 0 = 0 ∧ pRw ν' ps R.2.2)) := by
  unfold g_X5_read g_X9_open g_X4_clear
  refine gv_call (Q' := fun _ τ => τ = gup (gup (gup ν (-900) 0 7) (-901) 0 x) (-902) 0 0) (gv_put (gv_ck (by unfold hf_inI; omega) (gv_let (gv_put (gv_put (gv_ret (by rw [show min x 400 = x by omega]))))))) (fun _ τ ht => gv_put (gv_get ?_))
  subst ht
  rw [gup_at]
  refine gv_ck hps (gv_call (Q' := fun _ τ => τ = gup (gup (gup (gup (gup (gup ν (-900) 0 7) (-901) 0 x) (-902) 0 0) (-801) 0 ps) (-(100 * ps + 0)) 0 0) (-(100 * ps + 1)) 0 0) (gv_ck hps (gv_put (gv_ck hps (gv_put (gv_ret rfl))))) (fun _ τ ht => gv_put (gv_put (gv_put (gv_put (gv_put ?_))))))
  subst ht
  generalize hσ : gup (gup (gup (gup (gup (gup (gup (gup (gup (gup (gup ν (-900) 0 7) (-901) 0 x) (-902) 0 0) (-801) 0 ps) (-(100 * ps + 0)) 0 0) (-(100 * ps + 1)) 0 0) (-806) 0 0) (-804) 0 0) (-805) 0 0) (-811) 0 0) (-812) 0 (-1) = σ
  have hfσ : gfr [-900, -901, -902, -801, -(100 * ps + 0), -(100 * ps + 1), -806, -804, -805, -811, -812] ν σ := by
    rw [← hσ]
    exact (((((((((((gfr.refl _ _).up (by simp)).up (by simp)).up (by simp)).up (by simp)).up (by simp)).up (by simp)).up (by simp)).up (by simp)).up (by simp)).up (by simp)).up (by simp)
  have n1 : ∀ a : Int, a ∈ ([-900, -901, -902, -801, -806, -804, -805, -811, -812] : List Int) → a ≠ -(100 * ps + 0) ∧ a ≠ -(100 * ps + 1) := fun a ha => by
    simp only [List.mem_cons, List.not_mem_nil, or_false] at ha
    omega
  have v900 : σ (-900) 0 = 7 := by rw [← hσ]; simp (disch := decide) only [gup_ne]; rw [gup_ne (n1 _ (by simp)).2, gup_ne (n1 _ (by simp)).1]; simp (disch := decide) only [gup_ne, gup_at]
  have v901 : σ (-901) 0 = x := by rw [← hσ]; simp (disch := decide) only [gup_ne]; rw [gup_ne (n1 _ (by simp)).2, gup_ne (n1 _ (by simp)).1]; simp (disch := decide) only [gup_ne, gup_at]
  have v902 : σ (-902) 0 = 0 := by rw [← hσ]; simp (disch := decide) only [gup_ne]; rw [gup_ne (n1 _ (by simp)).2, gup_ne (n1 _ (by simp)).1]; simp (disch := decide) only [gup_ne, gup_at]
  have v801 : σ (-801) 0 = ps := by rw [← hσ]; simp (disch := decide) only [gup_ne]; rw [gup_ne (n1 _ (by simp)).2, gup_ne (n1 _ (by simp)).1]; simp (disch := decide) only [gup_ne, gup_at]
  have v806 : σ (-806) 0 = 0 := by rw [← hσ]; simp (disch := decide) only [gup_ne, gup_at]
  have v804 : σ (-804) 0 = 0 := by rw [← hσ]; simp (disch := decide) only [gup_ne, gup_at]
  have v805 : σ (-805) 0 = 0 := by rw [← hσ]; simp (disch := decide) only [gup_ne, gup_at]
  have v811 : σ (-811) 0 = 0 := by rw [← hσ]; simp (disch := decide) only [gup_ne, gup_at]
  have v812 : σ (-812) 0 = -1 := by rw [← hσ, gup_at]
  have vln : σ (-(100 * ps + 0)) 0 = 0 := by
    rw [← hσ, gup_ne (Ne.symm (n1 _ (by simp)).1), gup_ne (Ne.symm (n1 _ (by simp)).1), gup_ne (Ne.symm (n1 _ (by simp)).1), gup_ne (Ne.symm (n1 _ (by simp)).1), gup_ne (Ne.symm (n1 _ (by simp)).1), gup_ne (by omega), gup_at]
  have v7 : σ 7 = b := by rw [hfσ 7 (by rcases hps with e | e <;> subst e <;> decide)]; exact hb
  have hS : ∃ S : gN, (∀ r : Int, 0 ≤ r → r ≤ 13 → S r = σ (cm ps r)) := ⟨fun r j => if 0 ≤ r ∧ r ≤ 13 then σ (cm ps r) j else 0, fun r a1 a2 => by funext j; exact if_pos ⟨a1, a2⟩⟩
  obtain ⟨S, hS⟩ := hS
  have s0 : S 0 0 = 0 := by rw [hS 0 (by decide) (by decide)]; exact v806
  have s1 : S 1 0 = 0 := by rw [hS 1 (by decide) (by decide)]; exact v804
  have s2 : S 2 0 = 0 := by rw [hS 2 (by decide) (by decide)]; exact v805
  have s7 : S 7 0 = 0 := by rw [hS 7 (by decide) (by decide)]; exact vln
  have hI : pI S := ⟨⟨by omega, by omega, fun j a1 a2 => by omega, fun i a1 a2 => by omega⟩, Or.inl ⟨s0, by omega, by unfold cf; rw [if_pos s7]; exact s2⟩⟩
  have hc : cI σ σ ps S := ⟨hps, v801, fun r a1 a2 => (hS r a1 a2).symm, fun _ _ => rfl⟩
  obtain ⟨R, hR⟩ : ∃ R, rdl b x (x + 1).toNat 0 S = R := ⟨_, rfl⟩
  have hRD : RD b x 0 S R := ⟨(x + 1).toNat, by omega, hR⟩
  have hRi := RD_in (b := b) (S := S) (R := R) (n := x) _ 0 S (by omega) hR
  have hsc : scI σ b x 0 := ⟨v7, v900, v901, v902, by omega, by omega, hbr⟩
  refine (s_read49 hc hI hsc hRD v811 v812).mono (fun _ ν' hh => ?_)
  obtain ⟨q1, q2, q3, q4⟩ := hh
  refine ⟨fun b' hb' => ?_, S, R, hI, s0, s1, s2, s7, hRD, hRi, q2, q3, fun g => ?_⟩
  · rw [q1 b' (fun r a1 a2 e => hb' (by rw [e]; exact cm_mem hps ⟨a1, a2⟩)) (fun g => hb' ?_), hfσ b' (fun g => hb' ?_)]
    · unfold wCl
      simp only [List.mem_cons, List.not_mem_nil, or_false] at g ⊢
      omega
    · unfold wCl
      simp only [List.mem_cons, List.not_mem_nil, or_false] at g ⊢
      omega
  · obtain ⟨g1, g2, g3, g4⟩ := q4 g
    have hp0 := g1.m0 g2
    refine ⟨g1, g2, ?_, ?_, g3 8 (by decide) (by decide), g3 11 (by decide) (by decide), g3 12 (by decide) (by decide), g3 13 (by decide) (by decide)⟩
    · have := g3 7 (by decide) (by decide)
      exact congrFun this 0
    · rw [g4]; exact hp0.2.1.symm
theorem pRw_fr {a : Int} {S ν' : gN} (h : pRw ν a S) (e : ∀ r : Int, r = -(100 * a + 0) ∨ r = -(100 * a + 1) ∨ r = a + 1 ∨ r = a + 2 ∨ r = a + 3 ∨ r = a + 4 → ν' r = ν r) : pRw ν' a S := by
  obtain ⟨h1, h2, h3, h4, h5, h6⟩ := h
  refine ⟨?_, ?_, ?_, ?_, ?_, ?_⟩
  · rw [e _ (by simp)]; exact h1
  · rw [e _ (by simp)]; exact h2
  · rw [e _ (by simp)]; exact h3
  · rw [e _ (by simp)]; exact h4
  · rw [e _ (by simp)]; exact h5
  · rw [e _ (by simp)]; exact h6
theorem rowsP_fr {S ν' : gN} (h : rowsP ν S) (hL : pL S) (h3 : lo3 ν ν') (h5 : lo5 ν ν') : rowsP ν' S := by
  obtain ⟨h1, h2⟩ := h
  have b2 := hL.2.1
  have b7 := hL.1
  refine ⟨fun i hi => ?_, fun i a1 a2 => ?_⟩
  · have := h1 i hi
    have e := h3 i (by omega)
    unfold nOl at this ⊢
    rw [e.1, e.2.1, e.2.2]; exact this
  · have := h2 i a1 a2
    rw [h5 79 (by decide) i (by omega), h5 80 (by decide) i (by omega), h5 81 (by decide) i (by omega), h5 82 (by decide) i (by omega), h5 83 (by decide) i (by omega)]
    exact this
end
