/-! TRIAL: the line that holds -/
def lok (S : gN) (N : Int → Int) (i : Int) : Prop := cf (S 13) i = S 12 i ∨ ∃ v, evv (S 8) N (cf (S 13) i) (S 12 i) = some v ∧ v ≠ 0
def lnF (S : gN) (N : Int → Int) (i l : Int) : Prop := (l = -1 ∧ ∀ j : Int, i ≤ j → j < S 7 0 → ¬ lok S N j) ∨ ((i ≤ l ∧ l < S 7 0) ∧ lok S N l ∧ ∀ j : Int, i ≤ j → j < l → ¬ lok S N j)
theorem lnF_one {S : gN} {N : Int → Int} {i l l' : Int} (hi : 0 ≤ i) (h : lnF S N i l) (h' : lnF S N i l') : l = l' := by
  rcases h with ⟨a1, a2⟩ | ⟨a1, a2, a3⟩
  · rcases h' with ⟨b1, b2⟩ | ⟨b1, b2, b3⟩
    · omega
    · exact absurd b2 (a2 l' b1.1 b1.2)
  · rcases h' with ⟨b1, b2⟩ | ⟨b1, b2, b3⟩
    · exact absurd a2 (b2 l a1.1 a1.2)
    · apply Classical.byContradiction
      intro g
      by_cases c : l < l'
      · exact b3 l a1.1 c a2
      · exact a3 l' b1.1 (by omega) b2
theorem lnF_step {S : gN} {N : Int → Int} {i l : Int} (h : lnF S N (i + 1) l) (hn : ¬ lok S N i) (hi : 0 ≤ i) : lnF S N i l := by
  have key : ∀ j : Int, i ≤ j → ¬ (i + 1 ≤ j) → ¬ lok S N j := fun j a b => by rw [show j = i by omega]; exact hn
  rcases h with ⟨a1, a2⟩ | ⟨a1, a2, a3⟩
  · refine Or.inl ⟨a1, fun j c1 c2 => ?_⟩
    by_cases c : i + 1 ≤ j
    · exact a2 j c c2
    · exact key j c1 c
  · refine Or.inr ⟨by omega, a2, fun j c1 c2 => ?_⟩
    by_cases c : i + 1 ≤ j
    · exact a3 j c c2
    · exact key j c1 c
section
variable {T : gT} {ν τ S : gN} {N : Int → Int} {pl : Int}
theorem d_condFrom {i : Int} (hpl : pl = 18 ∨ pl = 23) (hR : pRw τ pl S) (hi : 0 ≤ i ∧ i < 12) : gd (g_X4_conditionFrom pl i) T τ (cf (S 13) i) := by
  unfold g_X4_conditionFrom cf
  refine gd_cz ⟨by omega, by omega⟩ (fun c => ?_) (fun c => gd_ck hpl (gd_al (by omega) ?_))
  · rw [if_pos (by omega)]; exact gd_ret
  · rw [if_neg (by omega), hR.2.2.2.2.2]; exact gd_ret
theorem cf_in (hL : pL S) {i : Int} (hi : 0 ≤ i ∧ i < S 7 0) : (0 ≤ cf (S 13) i ∧ cf (S 13) i ≤ S 12 i) ∧ (S 12 i < S 13 i ∧ S 13 i ≤ S 2 0) ∧ (cf (S 13) i = S 12 i ∨ exW (S 8) (cf (S 13) i) (S 12 i)) ∧ exW (S 8) (S 12 i) (S 13 i) ∧ (0 ≤ S 11 i ∧ S 11 i ≤ 3) := by
  obtain ⟨h1, h2, h3, h4⟩ := hL.2.2.2 i hi.1 hi.2
  have := h2.2.1
  have := h2.1
  rcases h1 with ⟨g1, g2⟩ | g
  · exact ⟨by omega, by omega, Or.inl g1, h2, h3⟩
  · have := g.1
    have := g.2.1
    exact ⟨by omega, by omega, Or.inr g, h2, h3⟩
theorem s_lineC (hpl : pl = 18 ∨ pl = 23) (hR : pRw ν pl S) (hL : pL S) (hN : nmB N) (hC : nmC ν N) : gv (g_X6_lineThatHolds pl) T ν (fun r ν' => lnF S N 0 r ∧ gfr [38, -3701, -3702] ν ν') := by
  have b7 := hL.1
  have b2 := hL.2.1
  unfold g_X6_lineThatHolds g_X6_lineThatHolds_2
  refine gv_fx (fun (x : Int) τ => (0 ≤ x ∧ x ≤ S 7 0) ∧ gfr [38, -3701, -3702] ν τ ∧ ∀ l, lnF S N x l → lnF S N 0 l) (fun x _ => (20 - x).toNat) ⟨by omega, gfr.refl _ _, fun _ h => h⟩ (by decide) ?_
  intro rec x τ hI hrec
  obtain ⟨hx, hf, hstep⟩ := hI
  have hR' : pRw τ pl S := pRw_fr hR (fun r hr => hf r (by
    simp only [List.mem_cons, List.not_mem_nil, or_false]; omega))
  unfold gB_X6_lineThatHolds_2
  refine gv_ck hpl (gv_get ?_)
  rw [hR'.1]
  refine gv_cb ⟨⟨by omega, by omega⟩, ⟨by omega, by omega⟩⟩ (fun c => gv_ret ⟨hstep _ (Or.inl ⟨rfl, fun j a b => by omega⟩), hf⟩) (fun c => gv_ck hpl ?_)
  obtain ⟨i1, i2, i3, i4, i5⟩ := cf_in hL (i := x) (by omega)
  unfold g_X4_hasCondition
  refine gv_call (Q' := fun r τ' => r = (if S 12 x ≤ cf (S 13) x then 0 else 1) ∧ τ' = τ) (gv_ck hpl (gv_al (by omega) (gv_ck hpl (gv_rd (d_condFrom hpl hR' (by omega)) ?_)))) (fun r τ' hh => ?_)
  · rw [hR'.2.2.2.2.1]
    refine gv_ck (by unfold hf_inI; omega) (gv_let (gv_ck ?_ (gv_ret ⟨rfl, rfl⟩)))
    split <;> simp
  obtain ⟨e1, e2⟩ := hh
  rw [e1, e2]
  clear e1 e2
  by_cases cc : S 12 x ≤ cf (S 13) x
  · rw [if_pos cc]
    refine gv_cz (by decide) (fun g => absurd rfl g) (fun _ => gv_ret ⟨hstep _ (Or.inr ⟨by omega, Or.inl (by omega), fun j a b => by omega⟩), hf⟩)
  · rw [if_neg cc]
    refine gv_cz (by decide) (fun _ => gv_ck hpl (gv_rd (d_condFrom hpl hR' (by omega)) (gv_ck hpl (gv_al (by omega) ?_)))) (fun g => absurd (by decide) g)
    rw [hR'.2.2.2.2.1]
    have hex : exW (S 8) (cf (S 13) x) (S 12 x) := i3.resolve_left (by omega)
    refine gv_call (s_work (W := S 8) (N := N) hpl (by omega) hex.2.2.1 hex.2.2.2 (fun i a b => hL.2.2.1 i a (by omega)) hR'.2.2.1 hN (nmC_fr hC hf (by decide))) (fun r τ1 hh => ?_)
    obtain ⟨q1, q2, q3⟩ := hh
    have q2' := q2
    unfold bdd mxv at q2'
    refine gv_cl (by omega) (fun cv => gv_let (hrec _ τ1 ⟨by omega, hf.trans q1, fun l hl => hstep l (lnF_step hl ?_ hx.1)⟩ (by omega))) (fun cv => gv_ret ⟨hstep _ (Or.inr ⟨by omega, Or.inr ⟨r, ?_, cv⟩, fun j a b => by omega⟩), hf.trans q1⟩)
    · intro g
      rcases g with g | ⟨v, g1, g2⟩
      · omega
      · rcases q3 with ⟨q4, _⟩ | ⟨q4, _⟩
        · rw [q4] at g1; exact g2 ((Option.some.inj g1).symm.trans cv)
        · rw [q4] at g1; exact absurd g1 (by simp)
    · rcases q3 with ⟨q4, _⟩ | ⟨q4, q5, _⟩
      · exact q4
      · exact absurd q5 cv
theorem s_lineR (hP : rowsP ν S) (h19 : ν (-6919) 0 = S 7 0) (hL : pL S) (hN : nmB N) (hR : nmR ν N) : gv g_X12_lineNow T ν (fun r ν' => lnF S N 0 r ∧ gfr [87, -6941] ν ν') := by
  have b7 := hL.1
  have b2 := hL.2.1
  unfold g_X12_lineNow g_X12_lineNow_2
  refine gv_fx (fun (x : Int) τ => (0 ≤ x ∧ x ≤ S 7 0) ∧ gfr [87, -6941] ν τ ∧ ∀ l, lnF S N x l → lnF S N 0 l) (fun x _ => (20 - x).toNat) ⟨by omega, gfr.refl _ _, fun _ h => h⟩ (by decide) ?_
  intro rec x τ hI hrec
  obtain ⟨hx, hf, hstep⟩ := hI
  unfold gB_X12_lineNow_2
  refine gv_get ?_
  rw [hf (-6919) (by decide), h19]
  refine gv_cb ⟨⟨by omega, by omega⟩, ⟨by omega, by omega⟩⟩ (fun c => gv_ret ⟨hstep _ (Or.inl ⟨rfl, fun j a b => by omega⟩), hf⟩) (fun c => gv_al (by omega) (gv_al (by omega) ?_))
  obtain ⟨i1, i2, i3, i4, i5⟩ := cf_in hL (i := x) (by omega)
  obtain ⟨r1, r2, r3, r4, r5⟩ := hP.2 x (by omega) (by omega)
  have e79 : τ 79 x = cf (S 13) x := by rw [hf 79 (by decide)]; exact r1
  have e80 : τ 80 x = S 12 x := by rw [hf 80 (by decide)]; exact r2
  rw [e79, e80]
  refine gv_cb ⟨⟨by omega, by omega⟩, ⟨by omega, by omega⟩⟩ (fun cc => gv_al (by omega) (gv_al (by omega) ?_)) (fun cc => gv_ret ⟨hstep _ (Or.inr ⟨by omega, Or.inl (by omega), fun j a b => by omega⟩), hf⟩)
  rw [e79, e80]
  have hex : exW (S 8) (cf (S 13) x) (S 12 x) := i3.resolve_left (by omega)
  refine gv_call (s_sumOf (W := S 8) (N := N) (by omega) hex.2.2.1 (fun i a b => hL.2.2.1 i a (by omega)) (fun i hi => ?_) hN (fun j a1 a2 => by rw [hf 86 (by decide)]; exact hR j a1 a2)) (fun r τ1 hh => gv_get ?_)
  · have := hP.1 i (by omega)
    unfold nOl at this ⊢
    rw [hf 76 (by decide), hf 77 (by decide), hf 78 (by decide)]; exact this
  obtain ⟨q1, q2, q3⟩ := hh
  have q2' := q2
  unfold bdd mxv at q2'
  have hnext : ¬ lok S N x → gv (g_X12_lineNow_59 rec x) T τ1 (fun r ν' => lnF S N 0 r ∧ gfr [87, -6941] ν ν') := fun hn => by
    unfold g_X12_lineNow_59
    exact gv_let (hrec _ τ1 ⟨by omega, hf.trans q1, fun l hl => hstep l (lnF_step hl hn hx.1)⟩ (by omega))
  rcases q3 with ⟨q4, q5⟩ | ⟨q4, q5⟩
  · rw [q5]
    refine gv_cz (by decide) (fun g => absurd rfl g) (fun _ => gv_cl (by omega) (fun cv => hnext (fun g => ?_)) (fun cv => gv_ret ⟨hstep _ (Or.inr ⟨by omega, Or.inr ⟨r, q4, cv⟩, fun j a b => by omega⟩), hf.trans q1⟩))
    rcases g with g | ⟨v, g1, g2⟩
    · omega
    · rw [q4] at g1; exact g2 ((Option.some.inj g1).symm.trans cv)
  · rw [q5]
    refine gv_cz (by decide) (fun _ => hnext (fun g => ?_)) (fun g => absurd (by decide) g)
    rcases g with g | ⟨v, g1, g2⟩
    · omega
    · rw [q4] at g1; exact absurd g1 (by simp)
end
