/-! PLAN: the reference behind an operand -/
theorem gup_comm {ν : gN} {a a' i i' v v' : Int} (h : a ≠ a') : gup (gup ν a i v) a' i' v' = gup (gup ν a' i' v') a i v := by
  funext r j
  unfold gup
  by_cases c1 : r = a' ∧ j = i'
  · rw [if_pos c1, if_neg (fun g => h (g.1.symm.trans c1.1)), if_pos c1]
  · rw [if_neg c1]
    by_cases c2 : r = a ∧ j = i
    · rw [if_pos c2, if_pos c2]
    · rw [if_neg c2, if_neg c2, if_neg c1]
section
variable {T : gT} {τ S : gN} {b : Int → Int} {n p m : Int}
theorem pop1_up (v : Int) : pop1 (gup S 1 0 v) = gup (pop1 S) 1 0 v := by
  unfold pop1 wrt
  simp (disch := decide) only [gup_ne]
  rw [gup_comm (a := 1) (a' := 3) (by decide), gup_comm (a := 1) (a' := 8) (by decide), gup_comm (a := 1) (a' := 2) (by decide)]
theorem rel_up {x : Int} (v : Int) : ∀ (f : Nat) (S : gN), (S 3 0).toNat = f → rel (gup S 1 0 v) x = gup (rel S x) 1 0 v := by
  intro f
  induction f with
  | zero =>
    intro S hf
    rw [rel_stop (S := gup S 1 0 v) (by rw [gup_ne (by decide)]; omega), rel_stop (S := S) (by omega)]
  | succ f ih =>
    intro S hf
    by_cases c : 0 < S 3 0 ∧ x ≤ bnd (S 9 (S 3 0 - 1))
    · rw [rel_pop c.1 c.2, rel_pop (S := gup S 1 0 v) (by rw [gup_ne (by decide)]; exact c.1) (by rw [gup_ne (by decide), gup_ne (by decide)]; exact c.2), pop1_up]
      exact ih (pop1 S) (by rw [pop1_3]; omega)
    · rw [rel_stop c, rel_stop (S := gup S 1 0 v) (by rw [gup_ne (by decide), gup_ne (by decide)]; exact c)]
theorem rel_rel {x y : Int} (hxy : x ≤ y) : ∀ (f : Nat) (S : gN), (S 3 0).toNat = f → rel S x = rel (rel S y) x := by
  intro f
  induction f with
  | zero => intro S hf; rw [rel_stop (S := S) (x := y) (by omega)]
  | succ f ih =>
    intro S hf
    by_cases c : 0 < S 3 0 ∧ y ≤ bnd (S 9 (S 3 0 - 1))
    · rw [rel_pop c.1 c.2, rel_pop (x := x) c.1 (by omega)]
      exact ih (pop1 S) (by rw [pop1_3]; omega)
    · rw [rel_stop (S := S) (x := y) c]
/-- once what binds more is gone, the top is a comparison just where the row says so -/
theorem rel_5 (hE : pE S m 1) (hL : pL S) (hC : S 10 (S 4 0) = cvr (S 9) (S 3 0).toNat) : (S 10 (S 4 0) = 0 → rel S 4 = rel S 5 ∧ ¬ (0 < rel S 5 3 0 ∧ bnd (rel S 5 9 (rel S 5 3 0 - 1)) = 4)) ∧ (¬ S 10 (S 4 0) = 0 → 0 < rel S 5 3 0 ∧ bnd (rel S 5 9 (rel S 5 3 0 - 1)) = 4) := by
  obtain ⟨q1, q2, q3, q4, q5⟩ := rel_all (x := 5) (by decide) hE hL
  have hcv := q4 (by decide)
  rw [← hC] at hcv
  obtain ⟨h', o, s, e1, e2, e3, hI⟩ := q2
  have hz : rel S 4 = rel (rel S 5) 4 := rel_rel (by decide) _ S rfl
  match h' with
  | 0 =>
    have e0 : rel S 5 3 0 = 0 := by rw [e1]; rfl
    have : cvr (rel S 5 9) (rel S 5 3 0).toNat = 0 := by rw [e0]; rfl
    refine ⟨fun c => ⟨?_, by omega⟩, fun c => by omega⟩
    rw [hz, rel_stop (by omega)]
  | g + 1 =>
    have eg : rel S 5 3 0 - 1 = (g : Int) := by omega
    have et : (rel S 5 3 0).toNat = g + 1 := by omega
    rw [eg] at q5 ⊢
    rw [et] at hcv
    have hb : bnd (rel S 5 9 g) < 5 := by omega
    have ht := cv_top hI.1 hI.2.1 hb
    have h01 := cv_01 (rel S 5 9) (g + 1)
    refine ⟨fun c => ?_, fun c => ⟨by omega, ht.mp (by omega)⟩⟩
    have hn : ¬ bnd (rel S 5 9 g) = 4 := fun h => by have := ht.mpr h; omega
    refine ⟨?_, fun h => hn h.2⟩
    rw [hz, rel_stop (by rw [eg]; omega)]
theorem s_signs (h : hT τ b n p) (hL : pL S) (hp : p3 S) (hM : rM τ S) (hop : 0 < S 4 0 ∨ (sc b n p).1 = 10 ∨ (sc b n p).1 = 11 ∨ (21 ≤ (sc b n p).1 ∧ (sc b n p).1 ≤ 30)) : gv g_X12_signs T τ (tnQ τ b n p S) := by
  have hp' := id hp
  obtain ⟨h0, h7, ⟨hE, hC⟩, hc⟩ := hp
  obtain ⟨mL, mE, mm⟩ := hM
  have e37 : τ (-6937) 0 = 0 := by
    rcases mm with g | g
    · have := g.1; omega
    · exact g.2
  have h64 := pE_64 hE
  have hsc := sc_in (b := b) h.2.2.2
  have htk := h.2.1
  generalize hk0 : (sc b n p).1 = k at *
  generalize hv : (sc b n p).2.1 = v at *
  have ef : fc S k v = (if k = 4 then (if S 4 0 = 0 then 1 else 0) else if (21 ≤ k ∧ k ≤ 26) ∧ ¬ S 10 (S 4 0) = 0 then 1 else if k = 10 ∨ k = 11 ∨ (21 ≤ k ∧ k ≤ 30) then (if S 1 0 < 64 then 0 else 2) else if 0 < S 4 0 then 1 else if ¬ S 6 0 = 0 then (if k = 7 ∨ k = 8 then 0 else 1) else if k = 5 then 0 else 1) := by unfold fc; rw [if_neg (by omega), if_neg (by omega), if_neg (by omega)]
  have en : nx S k v = (if k = 4 then cls S else if k = 10 ∨ k = 11 ∨ (21 ≤ k ∧ k ≤ 30) then opr S k else if ¬ S 6 0 = 0 then stD (rel S 1) k else eol S) := by unfold nx; rw [if_neg (by omega), if_neg (by omega), if_neg (by omega)]
  have s4 := d_sign (T := T) htk (x := 41) (k := 4) (by decide)
  -- a sign of two sides, once what binds as much is let go
  have h121 : ∀ (τ1 : gN) (Z : gN), gfr wBd τ τ1 → lo3 τ τ1 → rL τ1 Z → rE τ1 Z → pE Z (S 1 0) 1 → rel (gup S 1 0 (S 1 0 + 1)) (bnd k) = gup Z 1 0 (S 1 0 + 1) → (k = 10 ∨ k = 11 ∨ (21 ≤ k ∧ k ≤ 30)) → fc S k v = (if S 1 0 < 64 then 0 else 2) → gv (g_X12_signs_121 (sg k)) T τ1 (tnQ τ b n p S) := fun τ1 Z hf1 lo1 l1 r1 hEZ hZ co ef1 => by
    have hkk : hk k := by unfold hk; omega
    have z64 := pE_64 hEZ
    have hb := hk_bnd hkk
    have hb3 : bnd k ≠ 3 := by
      have : bnd k = if k = 10 then 1 else if k = 11 then 2 else if k = 9 then 3 else if 21 ≤ k ∧ k ≤ 26 then 4 else if k = 27 ∨ k = 28 then 5 else if k = 29 ∨ k = 30 then 6 else 0 := rfl
      revert this
      repeat' split
      all_goals omega
    unfold g_X12_signs_121
    have e36 : τ1 (-6936) 0 = S 1 0 := by rw [hf1 _ (by decide)]; exact mL.1
    refine gv_call (s_isCounted e36 (by omega)) (fun r τ2 h2 => ?_)
    rcases h2 with ⟨m1, rfl, rfl⟩ | ⟨m1, rfl, w⟩
    · refine gv_cz (by decide) (fun _ => gv_call (s_waitsFor (h := Z 3 0) (by rw [gup_ne (by decide)]; exact r1.1) (by omega)) (fun _ τ2 h2 => gv_put (gv_rd (d_X12_rank hkk) (gv_ck (by unfold hf_inI; omega) (gv_let (gv_ck (by split <;> omega) (gv_put ?_))))))) (fun g => absurd (by decide) g)
      subst h2
      generalize hσ : gup (gup (gup (gup (gup τ1 (-6936) 0 (S 1 0 + 1)) 84 (Z 3 0) (sg k)) (-6933) 0 (Z 3 0 + 1)) (-6937) 0 1) (-6938) 0 (if 3 ≤ bnd k then 0 else 1) = σ
      have hf : gfr [-6936, 84, -6933, -6937, -6938] τ1 σ := by rw [← hσ]; exact (((((gfr.refl _ _).up (by decide)).up (by decide)).up (by decide)).up (by decide)).up (by decide)
      have hf2 : gfr [76, 77, 78, 85, -6934, -6922, -6933, -6936, 84, -6937, -6938] τ σ := (hf1.mono (by decide)).trans (hf.mono (by decide))
      refine tn_ok (Z := opr S k) hf2 (by decide) (lo1.trans (hf.lo3 (by decide))) (h.fr hf2 (by decide)) (by rw [hk0, hv, ef1, if_pos m1]) (by rw [hk0, hv, en, if_neg (by omega), if_pos co]) ?_
      unfold opr op1
      rw [if_neg (by omega), hZ]
      refine rM_push (m := S 1 0) l1 r1 hkk (by omega) (by omega) hf ?_ (fun j => ?_) ?_ ?_ ?_
      · rw [← hσ]; simp (disch := decide) only [gup_ne, gup_at]
      · rw [← hσ]; simp (disch := decide) only [gup_ne, gup_same]
      · rw [← hσ]; simp (disch := decide) only [gup_ne, gup_at]
      · rw [← hσ]; simp (disch := decide) only [gup_ne, gup_at]
      · rw [← hσ, gup_at]
        by_cases c : 3 ≤ bnd k
        · rw [if_pos c, if_neg (by omega)]
        · rw [if_neg c, if_pos (by omega)]
    · refine gv_cz (by decide) (fun g => absurd rfl g) (fun _ => gv_ret ?_)
      exact tn_bad hf1 (by decide) lo1 (by rw [hf1 _ (by decide)]; exact tk17 h) w (by rw [hk0, hv, ef1, if_neg (by omega)]) (by decide)
  have h47 : ¬ (k = 4 ∧ 0 < S 4 0) → gv g_X12_signs_47 T τ (tnQ τ b n p S) := fun c4 => by
    unfold g_X12_signs_47
    refine gv_rd (d_X12_signMet htk) ?_
    by_cases co : k = 10 ∨ k = 11 ∨ (21 ≤ k ∧ k ≤ 30)
    · rw [if_pos co]
      rw [if_neg (show ¬ k = 4 by omega)] at ef
      have hkk : hk k := by unfold hk; omega
      have hb := hk_bnd hkk
      have hb1 := hb.2.1 (by omega)
      have hsg : 3 ≤ sg k ∧ sg k ≤ 14 := by
        unfold sg
        repeat' split
        all_goals omega
      refine gv_cz ⟨by omega, by omega⟩ (fun _ => gv_rd (d_X12_rank hkk) ?_) (fun g => absurd (by omega) g)
      refine gv_cb ⟨⟨by omega, by omega⟩, ⟨by omega, by omega⟩⟩ (fun cr => gv_rd (d_X12_rank hkk) ?_) (fun cr => ?_)
      · unfold g_X12_signs_79
        refine gv_call (s_bind mL mE hE ⟨hb1, hb.2.2.2.2⟩) (fun _ τ1 h1 => gv_rd (d_X12_rank hkk) (gv_cb ⟨⟨by omega, by omega⟩, ⟨by omega, by omega⟩⟩ (fun _ => ?_) (fun g => absurd cr g)))
        obtain ⟨f1, lo1, l1, r1⟩ := h1
        refine h121 τ1 (rel S (bnd k)) f1 lo1 l1 r1 (rel_all hb1 hE hL).2.1 (rel_up _ _ S rfl) co ?_
        rw [ef, if_neg (fun g => cr (hb.2.2.2.1.mp g.1)), if_pos co]
      · have e4 : bnd k = 4 := by omega
        have ccmp := hb.2.2.2.1.mpr e4
        unfold g_X12_signs_79
        refine gv_call (s_bind mL mE hE (by decide)) (fun _ τ1 h1 => gv_rd (d_X12_rank hkk) (gv_cb ⟨⟨by omega, by omega⟩, ⟨by omega, by omega⟩⟩ (fun g => absurd e4 g) (fun _ => gv_get ?_)))
        obtain ⟨f1, lo1, l1, r1⟩ := h1
        have hE5 := (rel_all (x := 5) (by decide) hE hL).2.1
        have z64 := pE_64 hE5
        have h5 := rel_5 hE hL hC
        have good : S 10 (S 4 0) = 0 → gv (g_X12_signs_121 (sg k)) T τ1 (tnQ τ b n p S) := fun c10 => by
          refine h121 τ1 (rel S 5) f1 lo1 l1 r1 hE5 ?_ co ?_
          · rw [e4, rel_up _ _ S rfl, (h5.1 c10).1]
          · rw [ef, if_neg (fun g => g.2 c10), if_pos co]
        rw [r1.1]
        refine gv_cz ⟨by omega, by omega⟩ (fun cz => good ?_) (fun cz => gv_get (gv_al ?_ ?_))
        · by_cases c10 : S 10 (S 4 0) = 0
          · exact c10
          · have := h5.2 c10; omega
        · rw [r1.1]; omega
        have hkt := pE_hk hE5 (by omega)
        have e84 : τ1 84 (rel S 5 3 0 - 1) = sg (rel S 5 9 (rel S 5 3 0 - 1)) := by
          have := r1.2.1 (rel S 5 3 0 - 1).toNat (by omega)
          rw [show (((rel S 5 3 0 - 1).toNat : Nat) : Int) = rel S 5 3 0 - 1 by omega] at this
          exact this
        rw [r1.1, e84]
        have hbi := bnd_in (k := rel S 5 9 (rel S 5 3 0 - 1))
        refine gv_rd (d_X12_rank hkt) (gv_cb ⟨⟨by omega, by omega⟩, ⟨by omega, by omega⟩⟩ (fun ct => good ?_) (fun ct => ?_))
        · by_cases c10 : S 10 (S 4 0) = 0
          · exact c10
          · exact absurd (h5.2 c10).2 ct
        · refine tn_wrong f1 (by decide) lo1 (by rw [f1 _ (by decide)]; exact tk17 h) ?_ (by decide)
          rw [hk0, hv, ef, if_pos ⟨ccmp, fun c10 => (h5.1 c10).2 ⟨by omega, by omega⟩⟩]
    · rw [if_neg co]
      refine gv_cz (by decide) (fun g => absurd rfl g) (fun _ => tn_wrong (gfr.refl [] τ) (by decide) (lo3.refl _) (tk17 h) ?_ (by decide))
      rw [hk0, hv, ef]
      by_cases c : k = 4
      · rw [if_pos c, if_pos (by omega)]
      · rw [if_neg c, if_neg (by omega), if_neg co, if_pos (by omega)]
  unfold g_X12_signs
  refine gv_rd s4 ?_
  by_cases c4 : k = 4
  · rw [if_pos c4]
    refine gv_cz (by decide) (fun g => absurd g (by decide)) (fun _ => gv_get ?_)
    rw [mE.2.2.1]
    refine gv_cz ⟨by omega, by omega⟩ (fun cd => h47 (by omega)) (fun cd => gv_call (s_bind mL mE hE (by decide)) (fun _ τ1 h1 => gv_get (gv_put (gv_get (gv_put ?_)))))
    obtain ⟨f1, lo1, l1, r1⟩ := h1
    rw [if_pos c4] at ef en
    have hrow := (rel_all (x := 1) (by decide) hE hL).1.1
    have e4 : rel S 1 4 = S 4 := hrow 4 (by decide) (by decide) (by decide)
    rw [r1.1, gup_ne (by decide), r1.2.2.1, e4]
    generalize hσ : gup (gup τ1 (-6933) 0 (rel S 1 3 0 - 1)) (-6935) 0 (S 4 0 - 1) = σ
    have hf : gfr [-6933, -6935] τ1 σ := by rw [← hσ]; exact ((gfr.refl _ _).up (by decide)).up (by decide)
    have hf2 : gfr [76, 77, 78, 85, -6934, -6922, -6933, -6935] τ σ := (f1.mono (by decide)).trans (hf.mono (by decide))
    have r : ∀ r : Int, r ≠ 3 → r ≠ 4 → cls S r = rel S 1 r := fun r a1 a2 => by unfold cls; rw [gup_ne a2, gup_ne a1]
    have c3 : cls S 3 0 = rel S 1 3 0 - 1 := by unfold cls; rw [gup_ne (by decide), gup_at]
    have c4' : cls S 4 0 = S 4 0 - 1 := by unfold cls; rw [gup_at]
    have q1 := r 1 (by decide) (by decide)
    have q2 := r 2 (by decide) (by decide)
    have q7 := r 7 (by decide) (by decide)
    have q8 := r 8 (by decide) (by decide)
    have q9 := r 9 (by decide) (by decide)
    have q11 := r 11 (by decide) (by decide)
    have q12 := r 12 (by decide) (by decide)
    have q13 := r 13 (by decide) (by decide)
    have q14 := r 14 (by decide) (by decide)
    have q0 := (r 0 (by decide) (by decide)).trans (hrow 0 (by decide) (by decide) (by decide))
    refine tn_ok (Z := cls S) hf2 (by decide) (lo1.trans (hf.lo3 (by decide))) (h.fr hf2 (by decide)) (by rw [hk0, hv, ef, if_neg (by omega)]) (by rw [hk0, hv]; exact en) ⟨rL_rows (l1.fr hf (by decide)) (by rw [q1]) (by rw [q2]) (by rw [q7]) q8 q11 q12 q13, ⟨?_, fun i hi => ?_, ?_, ?_⟩, Or.inr ⟨by rw [q0]; exact h0, ?_⟩⟩
    · rw [c3, ← hσ, gup_ne (by decide), gup_at]
    · rw [c3] at hi
      rw [hf _ (by decide), q9]; exact r1.2.1 i (by omega)
    · rw [c4', ← hσ, gup_at]
    · rw [q8, q14, q2]
      have := r1.2.2.2
      exact ⟨by rw [hf _ (by decide)]; exact this.1, fun j hj => by rw [hf _ (by decide)]; exact this.2 j hj⟩
    · rw [hf2 _ (by decide)]; exact e37
  · rw [if_neg c4]
    exact gv_cz (by decide) (fun _ => h47 (fun g => c4 g.1)) (fun g => absurd rfl g)
end
