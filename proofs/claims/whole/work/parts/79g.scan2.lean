/-! PLAN: the class's scanner -/
section
variable {T : gT} {ν : gN} {b : Int → Int} {n p : Int}
theorem hf_str_at {i : Nat} (h : i < 16) : hf_str (-(2 * (i : Int) + 2)) = some i := by
  unfold hf_str
  rw [if_pos (by omega), show ((- -(2 * (i : Int) + 2) - 2) / 2).toNat = i by omega]
theorem d_J0_length {i : Nat} (h : i < 16) : gd (g_J0_length (-(2 * (i : Int) + 2))) T ν ((hf_slen.getD i 0 : Nat) : Int) := by
  unfold gd g_J0_length
  rw [hf_str_at h]; rfl
theorem d_J0_charAt {i : Nat} (h : i < 16) {j : Int} (hj : 0 ≤ j ∧ j < (hf_slen.getD i 0 : Nat)) (hl : hf_slen.getD i 0 ≤ 5) : gd (g_J0_charAt (-(2 * (i : Int) + 2)) j) T ν (hf_sch i j) := by
  unfold gd g_J0_charAt
  rw [hf_str_at h]
  show (if hf_inI j ∧ 0 ≤ j ∧ j < (hf_slen.getD i 0 : Nat) then some (hf_sch i j, (T, ν)) else none) = _
  rw [if_pos ⟨by unfold hf_inI; omega, hj⟩]
theorem slen5 : ∀ i, i < 16 → hf_slen.getD i 0 ≤ 5 := by decide
theorem sch_in : ∀ i, i < 16 → ∀ j : Nat, j < 6 → 0 ≤ hf_sch i j ∧ hf_sch i j ≤ 127 := fun i hi j hj => (hf_sch_ok i hi j hj).2
/-- one word is tried -/
theorem d_X9_isWord (h : scI ν b n p) {s : Int} (hs : ν (-904) 0 = s) (h0 : 0 ≤ s ∧ s ≤ p) {i : Nat} (hi : i < 16) : gd (g_X9_isWord (-(2 * (i : Int) + 2))) T ν (if wm b s (p - s) i = true then 1 else 0) := by
  obtain ⟨h7, h9, h1, h2, h3, h4, h5⟩ := h
  have hl := slen5 i hi
  unfold g_X9_isWord
  refine gd_rd (d_J0_length hi) (gd_get (gd_get ?_))
  rw [h2, hs]
  unfold wm
  refine gd_cb ⟨⟨by omega, by omega⟩, ⟨by omega, by omega⟩⟩ (fun c => ?_) (fun c => ?_)
  · rw [show decide (p - s = ((hf_slen.getD i 0 : Nat) : Int)) = true from decide_eq_true c.symm, Bool.true_and]
    unfold g_X9_isWord_20
    refine gd_fx (fun (x : Int) => ∃ j : Nat, x = j ∧ j ≤ hf_slen.getD i 0 ∧ wme b s i j = true) (fun x => (10 - x).toNat) ⟨0, rfl, by omega, rfl⟩ (by decide) ?_
    intro rec x hI hrec
    obtain ⟨j, rfl, hj, hw⟩ := hI
    unfold gB_X9_isWord_20
    refine gd_rd (d_J0_length hi) (gd_cb ⟨⟨by omega, by omega⟩, ⟨by omega, by omega⟩⟩ (fun c2 => ?_) (fun c2 => gd_get (gd_ck h9 (gd_get (gd_al ?_ (gd_rd (d_J0_charAt hi (by omega) hl) ?_))))))
    · have : j = hf_slen.getD i 0 := by omega
      rw [← this, if_pos hw]; exact gd_ret
    · rw [hs]; omega
    · rw [h7, hs]
      have hb := h5 (s + j) (by omega) (by omega)
      have hc := sch_in i hi j (by omega)
      refine gd_cb ⟨⟨by omega, by omega⟩, ⟨by omega, by omega⟩⟩ (fun c3 => gd_let (hrec _ ⟨j + 1, by omega, by omega, ?_⟩ (by omega))) (fun c3 => ?_)
      · show (wme b s i j && decide (b (s + j) = hf_sch i j)) = true
        rw [hw, decide_eq_true c3]; rfl
      · have hno : ∀ m : Nat, wme b s i (j + 1 + m) = false := by
          intro m
          induction m with
          | zero => show (wme b s i j && decide (b (s + j) = hf_sch i j)) = false; rw [decide_eq_false c3, Bool.and_false]
          | succ m ih => show (wme b s i (j + 1 + m) && _) = false; rw [ih, Bool.false_and]
        have e := hno (hf_slen.getD i 0 - (j + 1))
        rw [show j + 1 + (hf_slen.getD i 0 - (j + 1)) = hf_slen.getD i 0 by omega] at e
        rw [e]
        exact gd_ret
  · rw [show decide (p - s = ((hf_slen.getD i 0 : Nat) : Int)) = false from decide_eq_false (fun e => c e.symm), Bool.false_and]
    exact gd_ret
theorem d_X9_wordOf {i : Nat} (hi : i < 15) : gd (g_X9_wordOf (6 + (i : Int))) T ν (-(2 * (i : Int) + 2)) := by
  unfold g_X9_wordOf
  refine gd_ck (by unfold hf_inI; omega) (gd_it (fun _ => by rw [show -(2 * (i : Int) + 2) = -2 by omega]; exact gd_ret) (fun c0 => gd_it (fun _ => by rw [show -(2 * (i : Int) + 2) = -4 by omega]; exact gd_ret) (fun c1 => gd_it (fun _ => by rw [show -(2 * (i : Int) + 2) = -6 by omega]; exact gd_ret) (fun c2 => gd_it (fun _ => by rw [show -(2 * (i : Int) + 2) = -8 by omega]; exact gd_ret) (fun c3 => gd_it (fun _ => by rw [show -(2 * (i : Int) + 2) = -10 by omega]; exact gd_ret) (fun c4 => gd_it (fun _ => by rw [show -(2 * (i : Int) + 2) = -12 by omega]; exact gd_ret) (fun c5 => gd_it (fun _ => by rw [show -(2 * (i : Int) + 2) = -14 by omega]; exact gd_ret) (fun c6 => gd_it (fun _ => by rw [show -(2 * (i : Int) + 2) = -16 by omega]; exact gd_ret) (fun c7 => gd_it (fun _ => by rw [show -(2 * (i : Int) + 2) = -18 by omega]; exact gd_ret) (fun c8 => gd_it (fun _ => by rw [show -(2 * (i : Int) + 2) = -20 by omega]; exact gd_ret) (fun c9 => gd_it (fun _ => by rw [show -(2 * (i : Int) + 2) = -22 by omega]; exact gd_ret) (fun c10 => gd_it (fun _ => by rw [show -(2 * (i : Int) + 2) = -24 by omega]; exact gd_ret) (fun c11 => gd_it (fun _ => by rw [show -(2 * (i : Int) + 2) = -26 by omega]; exact gd_ret) (fun c12 => gd_it (fun _ => by rw [show -(2 * (i : Int) + 2) = -28 by omega]; exact gd_ret) (fun c13 => gd_it (fun _ => by rw [show -(2 * (i : Int) + 2) = -30 by omega]; exact gd_ret) (fun c14 => by exfalso; omega))))))))))))))))
theorem s_X9_readWord_32 (h : scI ν b n p) {s : Int} (hs : ν (-904) 0 = s) (h0 : 0 ≤ s ∧ s ≤ p) (h3 : ν (-903) 0 = 1) : gv (g_X9_readWord_32 6) T ν (fun _ ν' => gfr [-903] ν ν' ∧ ν' (-903) 0 = wkd b s (p - s)) := by
  unfold g_X9_readWord_32
  refine gv_fx (fun (x : Int) τ => ∃ i : Nat, x = 6 + i ∧ i ≤ 15 ∧ gfr [-903] ν τ ∧ τ (-903) 0 = if lw b s (p - s) i = -1 then 1 else 6 + lw b s (p - s) i) (fun x _ => (30 - x).toNat) ⟨0, rfl, by omega, gfr.refl _ _, h3⟩ (by decide) ?_
  intro rec x τ hI hrec
  obtain ⟨i, rfl, hi, hf, e3⟩ := hI
  have hS : scI τ b n p := h.mv (hf.mono (by decide)) (by rw [hf _ (by decide)]; exact h.2.2.2.1) h.2.2.2.2.1
  unfold gB_X9_readWord_32 g_X9_readWord_54
  refine gv_cb ⟨⟨by omega, by omega⟩, ⟨by omega, by omega⟩⟩ (fun c => ?_) (fun c => gv_rd (d_X9_wordOf (by omega)) ?_)
  · have : i = 15 := by omega
    subst this
    exact gv_ret ⟨hf, e3⟩
  · refine gv_tz (k1 := gret 0) (k2 := gret 0) (d_X9_isWord hS (by rw [hf _ (by decide)]; exact hs) h0 (by omega)) (fun c2 => gv_e1 (gv_put (gv_let (hrec _ _ ⟨i + 1, by omega, by omega, hf.up (by decide), ?_⟩ (by omega))))) (fun c2 => gv_e0 (gv_let (hrec _ _ ⟨i + 1, by omega, by omega, hf, ?_⟩ (by omega))))
    · show _ = if (if wm b s (p - s) i = true then (i : Int) else lw b s (p - s) i) = -1 then 1 else 6 + (if wm b s (p - s) i = true then (i : Int) else lw b s (p - s) i)
      rw [gup_at, if_pos c2, if_neg (by omega)]
    · show _ = if (if wm b s (p - s) i = true then (i : Int) else lw b s (p - s) i) = -1 then 1 else 6 + (if wm b s (p - s) i = true then (i : Int) else lw b s (p - s) i)
      rw [if_neg c2]; exact e3
theorem s_X9_readWord (h : scI ν b n p) (hs : ν (-904) 0 = p) : gv g_X9_readWord T ν (fun _ ν' => gfr [-902, -903] ν ν' ∧ ν' (-902) 0 = rn (ltr b) n p ∧ ν' (-903) 0 = wkd b p (rn (ltr b) n p - p)) := by
  unfold g_X9_readWord g_X9_readWord_0
  refine gv_fx (fun (_ : Unit) τ => ∃ q : Int, p ≤ q ∧ scI τ b n q ∧ gfr [-902] ν τ ∧ rn (ltr b) n p = rn (ltr b) n q) (fun _ τ => (n - τ (-902) 0).toNat) ⟨p, Int.le_refl _, h, gfr.refl _ _, rfl⟩ (by have := h.2.2.2.2.1; have := h.2.2.2.2.2.1; rw [h.2.2.2.1]; omega) ?_
  intro rec _ τ hI hrec
  obtain ⟨q, hq, hS, hf, er⟩ := hI
  obtain ⟨h7, h9, h1, h2, h3, h4, h5⟩ := id hS
  have hp0 := h.2.2.2.2.1
  unfold gB_X9_readWord_0
  refine gv_get ?_
  rw [h2]
  refine gv_tz (k1 := gret 0) (k2 := gret 0) (d_X9_isLetterAt hS h3) (fun c => gv_e1 (gv_get (gv_put (hrec _ _ ⟨q + 1, by omega, hS.mv ((gfr.refl _ _).up (by decide)) ?_ (by omega), hf.up (by decide), ?_⟩ ?_)))) (fun c => gv_e0 (gv_put ?_))
  · rw [gup_at, h2]
  · rw [er, rn_yes c.1 c.2]
  · rw [gup_at, h2]; omega
  · have ern : rn (ltr b) n p = q := by
      rw [er]
      by_cases g : q < n
      · exact rn_no (fun hh => c ⟨g, hh⟩)
      · exact rn_end (by omega)
    rw [ern]
    refine (s_X9_readWord_32 (hS.mv ((gfr.refl _ _).up (by decide)) (by rw [gup_ne (by decide)]; exact h2) h3) (s := p) (by rw [gup_ne (by decide), hf _ (by decide)]; exact hs) (by omega) (gup_at _ _ _ _)).mono ?_
    intro _ ν' hh
    refine ⟨((hf.mono (by decide)).up (by decide)).trans (hh.1.mono (by decide)), ?_, hh.2⟩
    rw [hh.1 _ (by decide), gup_ne (by decide)]; exact h2
theorem d_X9_signOf {c : Int} (hc : -2147483648 ≤ c ∧ c ≤ 2147483647) : gd (g_X9_signOf c) T ν (sgo c) := by
  unfold g_X9_signOf sgo
  exact gd_ck hc (gd_ite gd_ret (gd_ite gd_ret (gd_ite gd_ret (gd_ite gd_ret (gd_ite gd_ret (gd_ite gd_ret (gd_ite gd_ret (gd_ite gd_ret (gd_ite gd_ret (gd_ite gd_ret gd_ret))))))))))
end
