/-! PLAN: the reference's scanner, words and signs -/
theorem wme_le {b : Int → Int} {s : Int} {i : Nat} : ∀ {n : Nat}, wme b s i n = true → ∀ j : Nat, j ≤ n → wme b s i j = true := by
  intro n
  induction n with
  | zero => intro h j hj; rw [show j = 0 by omega]; exact h
  | succ n ih =>
    intro h j hj
    by_cases e : j = n + 1
    · rw [e]; exact h
    · have h2 : (wme b s i n && decide (b (s + n) = hf_sch i n)) = true := h
      rw [Bool.and_eq_true] at h2
      exact ih h2.1 j (by omega)
theorem wm_iff {b : Int → Int} {s len : Int} {i : Nat} : wm b s len i = true ↔ (len = (hf_slen.getD i 0 : Nat) ∧ wme b s i (hf_slen.getD i 0) = true) := by
  unfold wm
  rw [Bool.and_eq_true, decide_eq_true_iff]
theorem pz_in {x : Int} (h : -1 ≤ x ∧ x < ((15 : Nat) : Int)) : -1 ≤ pz x ∧ pz x ≤ 15 ∧ (pz x = -1 ↔ x = -1) := by
  unfold pz
  repeat' split
  all_goals omega
theorem wm_pm {b : Int → Int} {s len : Int} {i : Nat} (hi : i < 15) : wm b s len (pm i) = true ↔ (len = (hf_slen.getD i 0 : Nat) ∧ wme b s (pm i) (hf_slen.getD i 0) = true) := by
  rw [wm_iff, (pm_ok i hi).2.1]
theorem lw_none {b : Int → Int} {s len : Int} : ∀ n : Nat, (∀ j : Nat, j < n → ¬ wm b s len j = true) → lw b s len n = -1 := by
  intro n
  induction n with
  | zero => intro _; rfl
  | succ n ih =>
    intro h
    show (if wm b s len n = true then (n : Int) else lw b s len n) = -1
    rw [if_neg (h n (by omega))]
    exact ih (fun j hj => h j (by omega))
section
variable {T : gT} {ν : gN} {b : Int → Int} {n p : Int}
theorem d_wordAt57 {rec : Int × Int → gM Int} {i : Nat} {s e v : Int} (h : srI ν b n p) (hi : i < 15) (hse : 0 ≤ s ∧ s ≤ e ∧ e ≤ n) (hk : ∀ f : Int, f = (if wm b s (e - s) (pm i) = true then 1 else 0) → gd (g_X12_wordAt_104 rec s e i (woff i) (hf_slen.getD i 0 : Nat) f) T ν v) : gd (g_X12_wordAt_57 rec s e i (woff i) (hf_slen.getD i 0 : Nat) (if ¬ (((hf_slen.getD i 0 : Nat) : Int) = e - s) then 0 else 1) 0) T ν v := by
  obtain ⟨h7, h9, h1, h2, h3, h4, h5⟩ := h
  have hl := slen5 i (by omega)
  have hw := woff_in i (by omega)
  have hwl := hw.2.2 hi
  unfold g_X12_wordAt_57
  refine gd_fx (fun (q : Int × Int) => ∃ j : Nat, q.2 = j ∧ j ≤ hf_slen.getD i 0 ∧ q.1 = if (e - s = (hf_slen.getD i 0 : Nat) ∧ wme b s (pm i) j = true) then 1 else 0) (fun q => (10 - q.2).toNat) ⟨0, rfl, by omega, ?_⟩ (by show ((10 : Int) - 0).toNat < 100000; decide) ?_
  · show (if ¬ (((hf_slen.getD i 0 : Nat) : Int) = e - s) then (0 : Int) else 1) = if (e - s = (hf_slen.getD i 0 : Nat) ∧ wme b s (pm i) 0 = true) then 1 else 0
    by_cases c : ((hf_slen.getD i 0 : Nat) : Int) = e - s
    · rw [if_neg (fun g => g c), if_pos ⟨c.symm, rfl⟩]
    · rw [if_pos c, if_neg (fun g => c g.1.symm)]
  intro rc q hI hrec
  obtain ⟨x6, x7⟩ := q
  obtain ⟨j, hj1, hj, hx6⟩ := hI
  replace hj1 : x7 = j := hj1
  replace hx6 : x6 = if (e - s = (hf_slen.getD i 0 : Nat) ∧ wme b s (pm i) j = true) then 1 else 0 := hx6
  subst hj1
  have h01 : x6 = 0 ∨ x6 = 1 := by rw [hx6]; split <;> omega
  show gd (gB_X12_wordAt_57 rec s e i (woff i) (hf_slen.getD i 0 : Nat) rc x6 j) T ν v
  unfold gB_X12_wordAt_57
  refine gd_cb ⟨⟨by omega, by omega⟩, ⟨by omega, by omega⟩⟩ (fun c => hk _ ?_) (fun c => gd_cz (by omega) (fun c2 => hk _ ?_) (fun c2 => ?_))
  · have : j = hf_slen.getD i 0 := by omega
    rw [hx6, this]
    by_cases g : wm b s (e - s) (pm i) = true
    · rw [if_pos g, if_pos ((wm_pm hi).mp g)]
    · rw [if_neg g, if_neg (fun hh => g ((wm_pm hi).mpr hh))]
  · rw [c2]
    rw [if_neg (fun g => ?_)]
    have hh := (wm_pm hi).mp g
    rw [if_pos ⟨hh.1, wme_le hh.2 j hj⟩] at hx6
    omega
  · have hA : e - s = (hf_slen.getD i 0 : Nat) ∧ wme b s (pm i) j = true := Classical.byContradiction (fun g => by rw [if_neg g] at hx6; exact c2 hx6)
    refine gd_al (by omega) (gd_al (by omega) ?_)
    rw [(h9 i hi).1 j (by omega), h7 _ (by omega) (by omega)]
    have hb := h5 (s + j) (by omega) (by omega)
    have hc := sch_in (pm i) (by have := (pm_ok i hi).1; omega) j (by omega)
    refine gd_ck (by unfold hf_inI; omega) (gd_let (gd_let (hrec _ ⟨j + 1, by show (j : Int) + 1 = ((j + 1 : Nat) : Int); omega, by omega, ?_⟩ (by show (10 - ((j : Int) + 1)).toNat < (10 - (j : Int)).toNat; omega))))
    show (if ¬ (hf_sch (pm i) j = b (s + j)) then (0 : Int) else 1) = if (e - s = (hf_slen.getD i 0 : Nat) ∧ (wme b s (pm i) j && decide (b (s + j) = hf_sch (pm i) j)) = true) then 1 else 0
    by_cases c3 : hf_sch (pm i) j = b (s + j)
    · rw [if_neg (fun g => g c3), if_pos ⟨hA.1, by rw [hA.2, decide_eq_true c3.symm]; rfl⟩]
    · rw [if_pos c3, if_neg (fun g => by have g2 := g.2; rw [decide_eq_false (fun e => c3 e.symm), Bool.and_false] at g2; exact absurd g2 (by decide))]
theorem d_wordAt18 {rec : Int × Int → gM Int} {i : Nat} {s e v : Int} (h : srI ν b n p) (hi : i < 15) (hse : 0 ≤ s ∧ s ≤ e ∧ e ≤ n) (hk : ∀ f : Int, f = (if wm b s (e - s) (pm i) = true then 1 else 0) → gd (g_X12_wordAt_104 rec s e i (woff i) (hf_slen.getD i 0 : Nat) f) T ν v) : gd (g_X12_wordAt_18 rec s e i (woff i) 0) T ν v := by
  obtain ⟨h7, h9, h1, h2, h3, h4, h5⟩ := id h
  have hl := slen5 i (by omega)
  have hw := woff_in i (by omega)
  have hwl := hw.2.2 hi
  unfold g_X12_wordAt_18
  refine gd_fx (fun (x : Int) => ∃ j : Nat, x = j ∧ j ≤ hf_slen.getD i 0) (fun x => (10 - x).toNat) ⟨0, rfl, by omega⟩ (by decide) ?_
  intro rc x hI hrec
  obtain ⟨j, rfl, hj⟩ := hI
  unfold gB_X12_wordAt_18
  refine gd_al (by omega) ?_
  by_cases c : j = hf_slen.getD i 0
  · have e32 := (h9 i hi).2
    rw [c, e32]
    refine gd_cb (by decide) (fun _ => gd_ck (by unfold hf_inI; omega) (gd_let (d_wordAt57 h hi hse hk))) (fun g => absurd rfl g)
  · rw [(h9 i hi).1 j (by omega)]
    have hc := sch_in (pm i) (by have := (pm_ok i hi).1; omega) j (by omega)
    have hn := sch_no (pm i) (pm_ok i hi).1 j (by omega) (by rw [(pm_ok i hi).2.1]; omega)
    exact gd_cb ⟨⟨by omega, by omega⟩, ⟨by omega, by omega⟩⟩ (fun g => absurd g hn) (fun _ => gd_let (hrec _ ⟨j + 1, by omega, by omega⟩ (by omega)))
theorem d_X12_wordAt {s e : Int} (h : srI ν b n p) (hse : 0 ≤ s ∧ s ≤ e ∧ e ≤ n) : gd (g_X12_wordAt s e) T ν (pz (lw b s (e - s) 15)) := by
  unfold g_X12_wordAt g_X12_wordAt_5
  refine gd_fx (fun (q : Int × Int) => ∃ i : Nat, q.1 = i ∧ i ≤ 15 ∧ q.2 = woff i ∧ ∀ j : Nat, j < i → ¬ wm b s (e - s) (pm j) = true) (fun q => (20 - q.1).toNat) ⟨0, rfl, by omega, rfl, fun j hj => by omega⟩ (by show ((20 : Int) - 0).toNat < 100000; decide) ?_
  intro rec q hI hrec
  obtain ⟨x3, x4⟩ := q
  obtain ⟨i, hx3, hi, hx4, hno⟩ := hI
  replace hx3 : x3 = i := hx3
  replace hx4 : x4 = woff i := hx4
  subst hx3 hx4
  have hw := woff_in i hi
  show gd (gB_X12_wordAt_5 s e rec i (woff i)) T ν _
  unfold gB_X12_wordAt_5
  refine gd_cb ⟨⟨by omega, by omega⟩, ⟨by omega, by omega⟩⟩ (fun c => ?_) (fun c => ?_)
  · have : i = 15 := by
      by_cases g : i < 15
      · have := hw.2.2 g; omega
      · omega
    subst this
    rw [lw_none 15 (fun j hj => by have := hno (pm j) (pm_ok j hj).1; rw [(pm_ok j hj).2.2.1] at this; exact this)]
    exact gd_ret
  · have hi15 : i < 15 := by
      by_cases g : i = 15
      · rw [g, woff_15] at c; omega
      · omega
    refine d_wordAt18 h hi15 hse (fun f hf => ?_)
    unfold g_X12_wordAt_104
    by_cases g : wm b s (e - s) (pm i) = true
    · rw [if_pos g] at hf
      subst hf
      refine gd_cz (by decide) (fun hh => absurd hh (by decide)) (fun _ => ?_)
      rw [lw_hit (pm_ok i hi15).1 g, (pm_ok i hi15).2.2.2]
      exact gd_ret
    · rw [if_neg g] at hf
      subst hf
      refine gd_cz (by decide) (fun _ => gd_let (gd_let (hrec _ ⟨i + 1, by show (i : Int) + 1 = ((i + 1 : Nat) : Int); omega, by omega, ?_, fun j hj => ?_⟩ (by show (20 - ((i : Int) + 1)).toNat < (20 - (i : Int)).toNat; omega)))) (fun hh => absurd rfl hh)
      · show woff i + ((hf_slen.getD i 0 : Nat) + 1) = woff i + (hf_slen.getD i 0 : Nat) + 1
        omega
      · by_cases e2 : j = i
        · rw [e2]; exact g
        · exact hno j (by omega)
theorem s_X12_take_90 (h : srI ν b n p) (h17 : ν (-6917) 0 = p) : gv g_X12_take_90 T ν (fun _ ν' => gfr [-6914, -6915, -6916] ν ν' ∧ ν' (-6914) 0 = rn (ltr b) n p ∧ tkR (wkd b p (rn (ltr b) n p - p)) 0 (ν' (-6915) 0) (ν' (-6916) 0)) := by
  unfold g_X12_take_90
  refine gv_fx (fun (_ : Unit) τ => ∃ q : Int, p ≤ q ∧ srI τ b n q ∧ gfr [-6914] ν τ ∧ rn (ltr b) n p = rn (ltr b) n q) (fun _ τ => (n - τ (-6914) 0).toNat) ⟨p, Int.le_refl _, h, gfr.refl _ _, rfl⟩ (by have := h.2.2.2.2.1; have := h.2.2.2.2.2.1; rw [h.2.2.2.1]; omega) ?_
  intro rec _ τ hI hrec
  obtain ⟨q, hq, hS, hf, er⟩ := hI
  obtain ⟨h7, h9, h1, h2, h3, h4, h5⟩ := id hS
  have hp0 := h.2.2.2.2.1
  unfold gB_X12_take_90
  refine gv_get ?_
  rw [h2]
  refine gv_tz (k1 := gret 0) (k2 := gret 0) (d_X12_isSmall hS h3) (fun c => gv_e1 (gv_get (gv_put (hrec _ _ ⟨q + 1, by omega, hS.mv ((gfr.refl _ _).up (by decide)) ?_ (by omega), hf.up (by decide), ?_⟩ ?_)))) (fun c => gv_e0 (gv_get (gv_get ?_)))
  · rw [gup_at, h2]
  · rw [er, rn_yes c.1 c.2]
  · rw [gup_at, h2]; omega
  · have ern : rn (ltr b) n p = q := by
      rw [er]
      by_cases g : q < n
      · exact rn_no (fun hh => c ⟨g, hh⟩)
      · exact rn_end (by omega)
    rw [ern, hf (-6917) (by decide), h17, h2]
    refine gv_rd (d_X12_wordAt hS (by omega)) (gv_put (gv_get ?_))
    rw [gup_at]
    have hl := lw_in b p (q - p) 15
    have hz := pz_in hl
    refine gv_ck (by unfold hf_inI; omega) (gv_let (gv_put (gv_ret ⟨((hf.mono (by decide)).up (by decide)).up (by decide), ?_, ?_⟩)))
    · rw [gup_ne (by decide), gup_ne (by decide)]; exact h2
    · rw [gup_at, gup_ne (by decide), gup_at]
      unfold wkd tkR
      by_cases g : lw b p (q - p) 15 = -1
      · rw [if_pos g, if_pos (by omega)]; exact Or.inr (Or.inl ⟨rfl, rfl⟩)
      · rw [if_neg g, if_neg (by omega)]
        exact Or.inr (Or.inr (Or.inr (Or.inl ⟨by omega, rfl, by rw [show 6 + lw b p (q - p) 15 - 6 = lw b p (q - p) 15 by omega]⟩)))
end
