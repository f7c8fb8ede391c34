/-! NOTES: what is written -/
section
variable {T : gT} {ν : gN}
theorem gbd_retId (m : gM Int) : gbd m (fun v => gret v) = m := by
  funext s
  unfold gbd
  cases m s with
  | none => rfl
  | some x => rfl
theorem s_X3_close {n x : Int} (hn : ν (-5300) 0 = n) (h : 0 ≤ n ∧ n < 40) (h58 : ∀ i : Int, 0 ≤ i → i < n → ν 58 i = -1 ∨ (0 ≤ ν 58 i ∧ ν 58 i < i)) (hx : x = -1 ∨ (0 ≤ x ∧ x < n)) : gv (g_X3_close x) T ν (fun r ν' => r = n ∧ gfr [58, 59, -5300] ν ν' ∧ ν' (-5300) 0 = n + 1 ∧ (∀ j : Int, ν' 58 j = if j = n then x else ν 58 j) ∧ ∀ j : Int, 0 ≤ j → j < n + 1 → ν' 59 j = cfd (ν' 58) (n + 1).toNat (fun _ => 1) j ∧ (ν' 59 j = 0 ∨ ν' 59 j = 1)) := by
  unfold g_X3_close
  refine gv_get (gv_as ⟨by omega, by omega⟩ (gv_get (gv_put ?_)))
  rw [gup_ne (by decide), hn]
  generalize ht : gup (gup ν 58 n x) (-5300) 0 (n + 1) = τ
  have hf : gfr [58, -5300] ν τ := by rw [← ht]; exact ((gfr.refl _ _).up (by decide)).up (by decide)
  have e53 : τ (-5300) 0 = n + 1 := by rw [← ht, gup_at]
  have e58 : ∀ j : Int, τ 58 j = if j = n then x else ν 58 j := fun j => by rw [← ht, gup_ne (by decide), gup_same]
  refine gv_call (s_X3_settle (by omega) (fun i i1 i2 => ?_)) (fun _ ν' hh => gv_get (gv_ret ?_))
  · rw [e58 i]
    by_cases c : i = n
    · rw [if_pos c]; omega
    · rw [if_neg c]; exact h58 i i1 (by omega)
  · obtain ⟨q1, q2⟩ := hh
    rw [q1 (-5300) (by decide), e53]
    refine ⟨by omega, (hf.mono (by decide)).trans (q1.mono (by decide)), rfl, fun j => by rw [q1 58 (by decide)]; exact e58 j, fun j j1 j2 => ?_⟩
    have := q2 j j1 (by omega)
    rw [q1 58 (by decide)]
    rw [e53] at this
    exact this
def wNw : List Int := [54, 55, 56, 57, 58, 59, -5300, 96, 97, 98, 99, -6957, -6902]
theorem nt_new {τ : gN} {n : Int} (h : iNt ν) (hn : ν (-5300) 0 = n) (h40 : n < 40) (e1 : τ (-5300) 0 = n + 1) (e2 : τ (-6957) 0 = n + 1)
    (hrow : ∀ b ∈ ([54, 55, 56, 57, 58, 96, 97, 98, 99] : List Int), ∀ i : Int, i ≠ n → τ b i = ν b i) (h54 : -1 ≤ τ 54 n ∧ τ 54 n ≤ 5)
    (hent : (0 ≤ τ 58 n ∧ τ 58 n < n ∧ τ 96 n = -1 ∧ τ 98 n = τ 58 n) ∨ (τ 58 n = -1 ∧ (0 ≤ τ 96 n ∧ τ 96 n ≤ 5) ∧ τ 96 n = τ 54 n ∧ τ 97 n = τ 55 n ∧ τ 98 n = τ 56 n ∧ τ 99 n = τ 57 n ∧ (0 ≤ τ 55 n ∧ τ 55 n < 3) ∧ (1 ≤ τ 56 n ∧ τ 56 n ≤ 40) ∧ (τ 57 n = 0 ∨ τ 57 n = 1)))
    (h59 : ∀ j : Int, 0 ≤ j → j < n + 1 → τ 59 j = cfd (τ 58) (n + 1).toNat (fun _ => 1) j ∧ (τ 59 j = 0 ∨ τ 59 j = 1)) : iNt τ := by
  obtain ⟨h1, h2, h3, h4, h5⟩ := h
  have hn0 := h1.1
  refine ⟨⟨by omega, by omega, fun i i1 i2 => ?_⟩, by omega, fun i i1 i2 => ?_, fun i i1 i2 => ?_, fun i i1 i2 => ?_⟩
  · rw [e1] at i2
    refine ⟨(h59 i i1 i2).2, ?_⟩
    by_cases c : i = n
    · rw [c]
      rcases hent with g | g
      · left; omega
      · right; exact ⟨g.1, g.2.2.2.2.2.2.1, g.2.2.2.2.2.2.2.1, g.2.2.2.2.2.2.2.2⟩
    · rw [hrow 58 (by decide) i c, hrow 55 (by decide) i c, hrow 56 (by decide) i c, hrow 57 (by decide) i c]
      exact (h1.2.2 i i1 (by omega)).2
  · by_cases c : i = n
    · rw [c]; exact h54
    · rw [hrow 54 (by decide) i c]; exact h3 i i1 i2
  · rw [e1] at i2
    by_cases c : i = n
    · rw [c]
      rcases hent with g | g
      · left; omega
      · right; exact ⟨g.1, g.2.1, g.2.2.1, g.2.2.2.1, g.2.2.2.2.1, g.2.2.2.2.2.1⟩
    · rw [hrow 58 (by decide) i c, hrow 96 (by decide) i c, hrow 97 (by decide) i c, hrow 98 (by decide) i c, hrow 99 (by decide) i c, hrow 54 (by decide) i c, hrow 55 (by decide) i c, hrow 56 (by decide) i c, hrow 57 (by decide) i c]
      exact h4 i i1 (by omega)
  · rw [e1] at i2 ⊢
    exact (h59 i i1 i2).1
theorem iNt.s58 (h : iNt ν) : ∀ i : Int, 0 ≤ i → i < ν (-5300) 0 → ν 58 i = -1 ∨ (0 ≤ ν 58 i ∧ ν 58 i < i) := fun i i1 i2 => by
  rcases (h.1.2.2 i i1 i2).2 with g | g
  · right; exact g
  · left; exact g.1
theorem c_strike {x : Int} (a : -2147483648 ≤ x ∧ x ≤ 2147483647) (h : iNt ν) : gb (g_X11_strike x) (g_X12_strike x) T ν (fun r ν' => (-1 ≤ r ∧ r ≤ 1000) ∧ gfr wNw ν ν' ∧ iNt ν') := by
  have hf0 : gfr [-6902] ν (gup ν (-6902) 0 0) := (gfr.refl _ _).up (by decide)
  have hN0 : iNt (gup ν (-6902) 0 0) := iNt_eq (hf0.eq (by decide)) h
  have h1 := h.1.1
  have h2 := h.1.2.1
  have e57 : gup ν (-6902) 0 0 (-6957) 0 = ν (-5300) 0 := by rw [hf0 _ (by decide)]; exact h.2.1
  have hno : ¬ (0 ≤ x ∧ x < ν (-5300) 0 ∧ ν (-5300) 0 < 40) → gv (g_X12_strike x) T ν (fun r2 ν2 => r2 = -1 ∧ (-1 ≤ (-1 : Int) ∧ (-1 : Int) ≤ 1000) ∧ gfr wNw ν ν2 ∧ iNt ν2) := fun c => by
    have hr : (-1 : Int) = -1 ∧ (-1 ≤ (-1 : Int) ∧ (-1 : Int) ≤ 1000) ∧ gfr wNw ν (gup ν (-6902) 0 0) ∧ iNt (gup ν (-6902) 0 0) := ⟨rfl, by decide, hf0.mono (by decide), hN0⟩
    unfold g_X12_strike
    refine gv_put (gv_get ?_)
    rw [e57]
    refine gv_cb ⟨⟨by omega, by omega⟩, ⟨by omega, by omega⟩⟩ (fun _ => gv_ret hr) (fun c1 => gv_cz a (fun _ => gv_ret hr) (fun c2 => gv_get ?_))
    rw [e57]
    exact gv_cb ⟨a, by omega, by omega⟩ (fun c3 => absurd ⟨by omega, c3, by omega⟩ c) (fun _ => gv_ret hr)
  unfold gb g_X11_strike g_X3_writeStrike
  rw [gbd_retId]
  refine gv_cz a (fun c => gv_ret (hno (by omega))) (fun c1 => gv_get (gv_cb ⟨a, by omega, by omega⟩ (fun c => gv_ret (hno (by omega))) (fun c2 => gv_get (gv_cb ⟨⟨by omega, by omega⟩, ⟨by omega, by omega⟩⟩ (fun c3 => ?_) (fun c => gv_ret (hno (by omega)))))))
  refine gv_call (s_X3_close (n := ν (-5300) 0) rfl ⟨h1, c3⟩ h.s58 (Or.inr ⟨by omega, by omega⟩)) (fun r ν1 hh => gv_ret ?_)
  obtain ⟨q1, q2, q3, q4, q5⟩ := hh
  have e57' : gup ν1 (-6902) 0 0 (-6957) 0 = ν (-5300) 0 := by rw [gup_ne (by decide), q2 _ (by decide)]; exact h.2.1
  unfold g_X12_strike
  refine gv_put (gv_get ?_)
  rw [e57']
  refine gv_cb ⟨⟨by omega, by omega⟩, ⟨by omega, by omega⟩⟩ (fun c => by omega) (fun _ => gv_cz a (fun c => absurd c c1) (fun _ => gv_get ?_))
  rw [e57']
  refine gv_cb ⟨a, by omega, by omega⟩ (fun _ => gv_get (gv_as (by omega) (gv_get (gv_as ?_ (gv_get (gv_put (gv_get (gv_ret ?_))))))))  (fun c => absurd (by omega) c)
  · rw [gup_ne (by decide), e57']; omega
  · have e57s : ν1 (-6957) 0 = ν (-5300) 0 := by rw [gup_ne (by decide)] at e57'; exact e57'
    simp (disch := decide) only [gup_ne, gup_at]
    rw [e57s]
    have e58 := q4 (ν (-5300) 0)
    rw [if_pos rfl] at e58
    refine ⟨by omega, by omega, ((((q2.mono (W' := wNw) (by decide)).up (by decide)).up (by decide)).up (by decide)).up (by decide), nt_new h rfl c3 ?_ ?_ ?_ ?_ (Or.inl ?_) ?_⟩
    · simp (disch := decide) only [gup_ne]; exact q3
    · rw [gup_at]
    · intro b hb i hi
      simp only [List.mem_cons, List.not_mem_nil, or_false] at hb
      rcases hb with e | e | e | e | e | e | e | e | e <;> subst e <;> simp (disch := decide) only [gup_ne, gup_same, if_neg hi]
      · rw [q2 54 (by decide)]
      · rw [q2 55 (by decide)]
      · rw [q2 56 (by decide)]
      · rw [q2 57 (by decide)]
      · rw [q4 i, if_neg hi]
      · rw [q2 96 (by decide)]
      · rw [q2 97 (by decide)]
      · rw [q2 98 (by decide)]
      · rw [q2 99 (by decide)]
    · simp (disch := decide) only [gup_ne]; rw [q2 54 (by decide)]; exact h.2.2.1 _ h1 c3
    · simp (disch := decide) only [gup_ne, gup_at]; rw [e58]; exact ⟨by omega, by omega, by simp⟩
    · simp (disch := decide) only [gup_ne]; exact q5
theorem c_note {x1 x2 x3 x4 : Int} (a1 : -2147483648 ≤ x1 ∧ x1 ≤ 2147483647) (a2 : -2147483648 ≤ x2 ∧ x2 ≤ 2147483647) (a3 : -2147483648 ≤ x3 ∧ x3 ≤ 2147483647) (a4 : x4 = 0 ∨ x4 = 1) (hs : iSt ν) (h : iNt ν) : gb (g_X11_note x1 x2 x3 x4) (g_X12_note x1 x2 x3 x4) T ν (fun r ν' => (-1 ≤ r ∧ r ≤ 1000) ∧ gfr wNw ν ν' ∧ iNt ν') := by
  have hf0 : gfr [-6902] ν (gup ν (-6902) 0 0) := (gfr.refl _ _).up (by decide)
  have hN0 : iNt (gup ν (-6902) 0 0) := iNt_eq (hf0.eq (by decide)) h
  have h1 := h.1.1
  have h2 := h.1.2.1
  have htop := hs.1
  have e57 : gup ν (-6902) 0 0 (-6957) 0 = ν (-5300) 0 := by rw [hf0 _ (by decide)]; exact h.2.1
  have hstep : ∀ τ : gN, τ (-6903) = ν (-6903) → gd (g_X12_isStep x3) T τ (if 1 ≤ x3 ∧ x3 ≤ ν (-200) 0 then 1 else 0) := fun τ ht => by
    have := d_X12_isStep (T := T) (ν := τ) a3 (by rw [ht, hs.2.2.2.2.2.1]; exact hs.1)
    rw [ht, hs.2.2.2.2.2.1] at this
    exact this
  have hno : ¬ ((0 ≤ x1 ∧ x1 ≤ 5) ∧ (0 ≤ x2 ∧ x2 < 3) ∧ (1 ≤ x3 ∧ x3 ≤ ν (-200) 0) ∧ ν (-5300) 0 < 40) → gv (g_X12_note x1 x2 x3 x4) T ν (fun r2 ν2 => r2 = -1 ∧ (-1 ≤ (-1 : Int) ∧ (-1 : Int) ≤ 1000) ∧ gfr wNw ν ν2 ∧ iNt ν2) := fun c => by
    have hr : (-1 : Int) = -1 ∧ (-1 ≤ (-1 : Int) ∧ (-1 : Int) ≤ 1000) ∧ gfr wNw ν (gup ν (-6902) 0 0) ∧ iNt (gup ν (-6902) 0 0) := ⟨rfl, by decide, hf0.mono (by decide), hN0⟩
    unfold g_X12_note
    refine gv_put (gv_get ?_)
    rw [e57]
    refine gv_cb ⟨⟨by omega, by omega⟩, ⟨by omega, by omega⟩⟩ (fun _ => gv_ret hr) (fun c1 => ?_)
    refine gv_tz (k1 := gret 0) (k2 := gret 0) (d_X12_isIn a1 (by decide) (by decide)) (fun c2 => gv_e1 ?_) (fun _ => gv_e0 (gv_ret hr))
    refine gv_tz (k1 := gret 0) (k2 := gret 0) (d_X12_isKind a2) (fun c3 => gv_e1 ?_) (fun _ => gv_e0 (gv_ret hr))
    refine gv_tz (k1 := gret 0) (k2 := gret 0) (hstep _ (hf0 _ (by decide))) (fun c4 => absurd ⟨c2, c3, c4, by omega⟩ c) (fun _ => gv_c0 (gv_ret hr))
  unfold gb g_X11_note
  refine gv_tz (k1 := gret 0) (k2 := gret 0) (d_X11_isWithin a1 (by decide)) (fun c1 => gv_e1 ?_) (fun c => gv_e0 (gv_ret (hno (fun g => c g.1))))
  refine gv_tz (k1 := gret 0) (k2 := gret 0) (d_X8_hasKind a2) (fun c2 => gv_e1 ?_) (fun c => gv_e0 (gv_ret (hno (fun g => c g.2.1))))
  refine gv_tz (k1 := gret 0) (k2 := gret 0) (d_X8_hasStep a3 hs.1) (fun c3 => gv_c1 ?_) (fun c => gv_c0 (gv_ret (hno (fun g => c g.2.2.1))))
  rw [gbd_retId]
  unfold g_X3_write
  refine gv_get (gv_cb ⟨⟨by omega, by omega⟩, ⟨by omega, by omega⟩⟩ (fun c4 => ?_) (fun c => gv_ret (hno (fun g => c g.2.2.2))))
  refine gv_get (gv_as ⟨h1, c4⟩ (gv_get (gv_as ?_ (gv_get (gv_as ?_ (gv_get (gv_ck a4 (gv_as ?_ ?_))))))))
  · rw [gup_ne (by decide)]; omega
  · rw [gup_ne (by decide), gup_ne (by decide)]; omega
  · rw [gup_ne (by decide), gup_ne (by decide), gup_ne (by decide)]; omega
  rw [gup_ne (by decide) , gup_ne (by decide), gup_ne (by decide), gup_ne (by decide), gup_ne (by decide), gup_ne (by decide)]
  rw [gbd_retId]
  generalize hn : ν (-5300) 0 = n at *
  generalize ht : gup (gup (gup (gup ν 54 n x1) 55 n x2) 56 n x3) 57 n x4 = τ
  have hf : gfr [54, 55, 56, 57] ν τ := by rw [← ht]; exact ((((gfr.refl _ _).up (by decide)).up (by decide)).up (by decide)).up (by decide)
  have hrowτ : ∀ b ∈ ([54, 55, 56, 57] : List Int), ∀ i : Int, i ≠ n → τ b i = ν b i := by
    intro b hb i hi
    simp only [List.mem_cons, List.not_mem_nil, or_false] at hb
    rw [← ht]
    rcases hb with e | e | e | e <;> subst e <;> simp (disch := decide) only [gup_ne, gup_same, if_neg hi]
  have t54 : τ 54 n = x1 := by rw [← ht]; simp (disch := decide) only [gup_ne, gup_at]
  have t55 : τ 55 n = x2 := by rw [← ht]; simp (disch := decide) only [gup_ne, gup_at]
  have t56 : τ 56 n = x3 := by rw [← ht]; simp (disch := decide) only [gup_ne, gup_at]
  have t57 : τ 57 n = x4 := by rw [← ht]; simp (disch := decide) only [gup_ne, gup_at]
  refine (s_X3_close (n := n) (x := -1) (by rw [hf _ (by decide)]; exact hn) ⟨h1, c4⟩ (fun i i1 i2 => by rw [hf 58 (by decide)]; exact h.s58 i i1 (by omega)) (Or.inl rfl)).mono ?_
  intro r ν1 hh
  obtain ⟨q1, q2, q3, q4, q5⟩ := hh
  have hf1 : gfr [54, 55, 56, 57, 58, 59, -5300] ν ν1 := (hf.mono (by decide)).trans (q2.mono (by decide))
  have e57' : gup ν1 (-6902) 0 0 (-6957) 0 = n := by rw [gup_ne (by decide), hf1 _ (by decide)]; rw [← hn]; exact h.2.1
  unfold g_X12_note
  refine gv_put (gv_get ?_)
  rw [e57']
  refine gv_cb ⟨⟨by omega, by omega⟩, ⟨by omega, by omega⟩⟩ (fun c => by omega) (fun _ => ?_)
  refine gv_tz (k1 := gret 0) (k2 := gret 0) (d_X12_isIn a1 (by decide) (by decide)) (fun _ => gv_e1 ?_) (fun c => absurd c1 c)
  refine gv_tz (k1 := gret 0) (k2 := gret 0) (d_X12_isKind a2) (fun _ => gv_e1 ?_) (fun c => absurd c2 c)
  refine gv_tz (k1 := gret 0) (k2 := gret 0) (hstep _ (by rw [gup_ne (by decide)]; exact hf1 _ (by decide))) (fun _ => gv_c1 ?_) (fun c => absurd c3 c)
  refine gv_get (gv_as (by omega) (gv_get (gv_as ?_ (gv_get (gv_as ?_ (gv_get (gv_ck a4 (gv_as ?_ (gv_get (gv_put (gv_get (gv_ret ?_))))))))))))
  · rw [gup_ne (by decide), e57']; omega
  · rw [gup_ne (by decide), gup_ne (by decide), e57']; omega
  · rw [gup_ne (by decide), gup_ne (by decide), gup_ne (by decide), e57']; omega
  · have e57s : ν1 (-6957) 0 = n := by rw [gup_ne (by decide)] at e57'; exact e57'
    simp (disch := decide) only [gup_ne, gup_at]
    rw [e57s]
    have e58 := q4 n
    rw [if_pos rfl] at e58
    refine ⟨by omega, by omega, ((((((hf1.mono (W' := wNw) (by decide)).up (by decide)).up (by decide)).up (by decide)).up (by decide)).up (by decide)).up (by decide), nt_new h hn c4 ?_ ?_ ?_ ?_ (Or.inr ?_) ?_⟩
    · simp (disch := decide) only [gup_ne]; exact q3
    · rw [gup_at]
    · intro b hb i hi
      simp only [List.mem_cons, List.not_mem_nil, or_false] at hb
      rcases hb with e | e | e | e | e | e | e | e | e <;> subst e <;> simp (disch := decide) only [gup_ne, gup_same, if_neg hi]
      · rw [q2 54 (by decide)]; exact hrowτ 54 (by decide) i hi
      · rw [q2 55 (by decide)]; exact hrowτ 55 (by decide) i hi
      · rw [q2 56 (by decide)]; exact hrowτ 56 (by decide) i hi
      · rw [q2 57 (by decide)]; exact hrowτ 57 (by decide) i hi
      · rw [q4 i, if_neg hi, hf 58 (by decide)]
      · rw [hf1 96 (by decide)]
      · rw [hf1 97 (by decide)]
      · rw [hf1 98 (by decide)]
      · rw [hf1 99 (by decide)]
    · simp (disch := decide) only [gup_ne]; rw [q2 54 (by decide), t54]; omega
    · simp (disch := decide) only [gup_ne, gup_at]
      rw [e58, q2 54 (by decide), q2 55 (by decide), q2 56 (by decide), q2 57 (by decide), t54, t55, t56, t57]
      exact ⟨rfl, c1, rfl, rfl, rfl, rfl, c2, by omega, a4⟩
    · simp (disch := decide) only [gup_ne]; exact q5
end
