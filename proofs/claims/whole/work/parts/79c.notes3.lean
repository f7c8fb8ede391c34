/-! NOTES: the calls -/
/-- the notes are the same on both sides -/
def iNt (ν : gN) : Prop := nC ν ∧ ν (-6957) 0 = ν (-5300) 0 ∧ (∀ i : Int, 0 ≤ i → i < 40 → -1 ≤ ν 54 i ∧ ν 54 i ≤ 5) ∧ (∀ i : Int, 0 ≤ i → i < ν (-5300) 0 → (0 ≤ ν 58 i ∧ ν 96 i = -1 ∧ ν 98 i = ν 58 i) ∨ (ν 58 i = -1 ∧ (0 ≤ ν 96 i ∧ ν 96 i ≤ 5) ∧ ν 96 i = ν 54 i ∧ ν 97 i = ν 55 i ∧ ν 98 i = ν 56 i ∧ ν 99 i = ν 57 i)) ∧ ∀ i : Int, 0 ≤ i → i < ν (-5300) 0 → ν 59 i = cfd (ν 58) (ν (-5300) 0).toNat (fun _ => 1) i
def aNt : List Int := [-5300, -6957, 54, 55, 56, 57, 58, 59, 96, 97, 98, 99]
theorem fitG_in (W : Int → Int) (k : Int) : ∀ (n : Nat) (t found : Int), 0 ≤ t → 0 ≤ found → -1 ≤ fitG W k n t found ∧ fitG W k n t found ≤ t + found + 2 * n := by
  intro n
  induction n with
  | zero => intro t found h1 h2; show -1 ≤ (if k = -1 then found else -1) ∧ (if k = -1 then found else -1) ≤ t + found + 2 * ((0 : Nat) : Int); split <;> omega
  | succ n ih =>
    intro t found h1 h2
    have i1 := ih (t + 1) (found + 1) (by omega) (by omega)
    have i2 := ih (t + 1) found (by omega) (by omega)
    show -1 ≤ (if W t = 0 then (if found = k then t else fitG W k n (t + 1) (found + 1)) else fitG W k n (t + 1) found) ∧ (if W t = 0 then (if found = k then t else fitG W k n (t + 1) (found + 1)) else fitG W k n (t + 1) found) ≤ t + found + 2 * ((n + 1 : Nat) : Int)
    repeat' split
    all_goals omega
section
variable {T : gT} {ν : gN}
theorem iNt_eq {τ : gN} (h : ∀ b ∈ aNt, τ b = ν b) (hn : iNt ν) : iNt τ := by
  unfold iNt nC at hn ⊢
  rw [h (-5300) (by decide), h (-6957) (by decide), h 54 (by decide), h 55 (by decide), h 56 (by decide), h 57 (by decide), h 58 (by decide), h 59 (by decide), h 96 (by decide), h 97 (by decide), h 98 (by decide), h 99 (by decide)]
  exact hn
theorem iNt.R (h : iNt ν) : nR ν := by
  obtain ⟨h1, h2, h3, h4, h5⟩ := h
  refine ⟨by have := h1.1; omega, by have := h1.2.1; omega, fun i i1 i2 => ?_⟩
  rw [h2] at i2
  have a := (h1.2.2 i i1 i2).2
  rcases h4 i i1 i2 with g | g
  · left
    rcases a with b | b
    · omega
    · omega
  · right
    rcases a with b | b
    · omega
    · rw [g.2.2.2.1, g.2.2.2.2.1, g.2.2.2.2.2]
      exact ⟨g.2.1, b.2.1, b.2.2.1, b.2.2.2⟩
/-- after the reference has laid its counts -/
theorem nt_lay (hs : iSt ν) (h : iNt ν) : gv g_X12_layCounts T (gup ν (-6902) 0 0) (fun _ ν' => gfr [-6902, 100] ν ν' ∧ nR ν' ∧ (∀ i : Int, 0 ≤ i → i < ν' (-6957) 0 → ν' 100 i = 0 ∨ ν' 100 i = 1) ∧ nD ν' 71 ∧ (1 ≤ ν' (-6903) 0 ∧ ν' (-6903) 0 ≤ 40) ∧ ν' (-6903) 0 = ν (-200) 0 ∧ dR ν' = dC ν ∧ ∀ who t : Int, 0 ≤ who → bR ν' who t = bC ν who t) := by
  have hf0 : gfr [-6902] ν (gup ν (-6902) 0 0) := (gfr.refl _ _).up (by decide)
  have hR := h.R
  obtain ⟨h1, h2, h3, h4, h5⟩ := id h
  have hR0 : nR (gup ν (-6902) 0 0) := by
    unfold nR at hR ⊢
    rw [hf0 (-6957) (by decide), hf0 96 (by decide), hf0 97 (by decide), hf0 98 (by decide), hf0 99 (by decide)]
    exact hR
  refine (s_X12_layCounts hR0).mono ?_
  intro _ ν' hh
  obtain ⟨q1, q2⟩ := hh
  have hf : gfr [-6902, 100] ν ν' := (hf0.mono (by decide)).trans (q1.mono (by decide))
  have eS : cfd (sR (gup ν (-6902) 0 0)) (gup ν (-6902) 0 0 (-6957) 0).toNat (fun _ => 1) = cfd (ν 58) (ν (-5300) 0).toNat (fun _ => 1) := by
    rw [hf0 (-6957) (by decide), h2]
    refine cfd_congr _ _ (fun i i1 i2 => ?_)
    unfold sR
    rw [hf0 96 (by decide), hf0 98 (by decide)]
    rcases h4 i i1 (by have := h1.1; omega) with g | g
    · rw [if_pos (by omega)]; exact g.2.2
    · rw [if_neg (by omega)]; exact g.1.symm
  have e100 : ∀ j : Int, 0 ≤ j → j < ν (-5300) 0 → ν' 100 j = ν 59 j := fun j j1 j2 => by
    rw [(q2 j j1 (by rw [hf0 (-6957) (by decide), h2]; exact j2)).1, eS]
    exact (h5 j j1 j2).symm
  have hd : ∀ i t : Int, 0 ≤ i → i < ν (-5300) 0 → dr ν' i t = dc ν i t := fun i t i1 i2 => by
    unfold dr dc
    rw [e100 i i1 i2, hf 96 (by decide), hf 97 (by decide), hf 98 (by decide), hf 99 (by decide), hf 71 (by decide)]
    by_cases c : ν 59 i = 0
    · rw [if_pos c, if_pos c]
    · rw [if_neg c, if_neg c]
      have a := (h1.2.2 i i1 i2).2
      rcases h4 i i1 i2 with g | g
      · rw [if_pos (by omega), if_neg (by omega)]
      · have b : (0 ≤ ν 55 i ∧ ν 55 i < 3) := by rcases a with b | b; omega; exact b.2.1
        rw [if_neg (by omega), if_pos g.1, g.2.2.2.1, g.2.2.2.2.1, g.2.2.2.2.2, (hs.2.2.2.2.2.2.1 _ b.1 b.2).1]
  have e57 : ν' (-6957) 0 = ν (-5300) 0 := by rw [hf _ (by decide)]; exact h2
  refine ⟨hf, ?_, fun i i1 i2 => ?_, fun k k1 k2 => ?_, ?_, ?_, funext (fun t => ?_), fun who t hw => ?_⟩
  · unfold nR at hR ⊢
    rw [hf (-6957) (by decide), hf 96 (by decide), hf 97 (by decide), hf 98 (by decide), hf 99 (by decide)]
    exact hR
  · rw [e57] at i2
    rw [e100 i i1 i2]
    exact (h1.2.2 i i1 i2).1
  · rw [hf 71 (by decide), (hs.2.2.2.2.2.2.1 k k1 k2).1]
    exact (hs.2.1 k k1 k2).1
  · rw [hf _ (by decide), hs.2.2.2.2.2.1]; exact hs.1
  · rw [hf _ (by decide)]; exact hs.2.2.2.2.2.1
  · unfold dR dC
    rw [e57]
    exact gsum_congr _ (fun i hi => hd i t (by omega) (by omega))
  · unfold bR bC
    rw [e57]
    refine gsum_congr _ (fun i hi => ?_)
    have i2 : (i : Int) < ν (-5300) 0 := by omega
    show (if ν' 96 i = who then dr ν' i t else 0) = (if ν 54 i = who then dc ν i t else 0)
    rw [hd i t (by omega) i2, hf 96 (by decide)]
    rcases h4 i (by omega) i2 with g | g
    · rw [if_neg (by omega)]
      have : dc ν i t = 0 := by
        unfold dc
        by_cases c : ν 59 i = 0
        · rw [if_pos c]
        · rw [if_neg c, if_neg (by omega)]
      rw [this]; simp
    · rw [g.2.2.1]
theorem iSt.nD3 (hs : iSt ν) : nD ν 3 := fun k k1 k2 => (hs.2.1 k k1 k2).1
def wNt : List Int := [-6902, 100, 60]
theorem c_fitting {k : Int} (a : -2147483648 ≤ k ∧ k ≤ 2147483647) (hs : iSt ν) (h : iNt ν) : gb (g_X11_fitting k) (g_X12_fitting k) T ν (fun r ν' => (-1 ≤ r ∧ r ≤ 1000) ∧ gfr wNt ν ν') := by
  have htop := hs.1
  have hin := fitG_in (dC ν) k ((ν (-200) 0).toNat + 1) 0 0 (Int.le_refl _) (Int.le_refl _)
  unfold gb
  refine ⟨_, _, d_X11_fitting h.1 hs.nD3 a hs.1, ?_⟩
  unfold g_X12_fitting
  refine gv_put (gv_call (nt_lay hs h) (fun _ ν' hh => ?_))
  obtain ⟨q1, q2, q3, q4, q5, q6, q7, q8⟩ := hh
  refine ⟨_, _, d_X12_fitting_13 q2 q3 q4 a q5, ?_, by omega, q1.mono (by decide)⟩
  rw [q6, q7]
theorem c_doubt {t : Int} (a : -2147483648 ≤ t ∧ t ≤ 2147483647) (hs : iSt ν) (h : iNt ν) : gb (g_X11_doubt t) (g_X12_doubt t) T ν (fun r ν' => (-1 ≤ r ∧ r ≤ 1000) ∧ gfr wNt ν ν') := by
  have htop := hs.1
  have hf0 : gfr [-6902] ν (gup ν (-6902) 0 0) := (gfr.refl _ _).up (by decide)
  have hd2 := d_X12_isStrength (T := T) (ν := gup ν (-6902) 0 0) a (by rw [hf0 _ (by decide), hs.2.2.2.2.2.1]; exact hs.1)
  rw [hf0 (-6903) (by decide), hs.2.2.2.2.2.1] at hd2
  unfold gb g_X11_doubt g_X12_doubt
  refine gv_rd (d_X8_hasStrength a hs.1) ?_
  by_cases c : 0 ≤ t ∧ t ≤ ν (-200) 0
  · have h40 := dC40 h.1 t
    rw [show (if 0 ≤ t ∧ t ≤ ν (-200) 0 then (1 : Int) else 0) = 1 from if_pos c] at hd2 ⊢
    refine gv_cz (by decide) (fun h => absurd h (by decide)) (fun _ => gv_rd (d_X3_wrongAt h.1 hs.nD3 (by omega)) (gv_ret (gv_put (gv_rd hd2 (gv_cz (by decide) (fun _ => gv_call (nt_lay hs h) (fun _ ν' hh => ?_)) (fun h => absurd (by decide) h))))))
    obtain ⟨q1, q2, q3, q4, q5, q6, q7, q8⟩ := hh
    refine gv_rd (d_X12_doubtOf q2 q3 q4 (by omega)) (gv_ret ⟨by rw [q7], by omega, q1.mono (by decide)⟩)
  · rw [show (if 0 ≤ t ∧ t ≤ ν (-200) 0 then (1 : Int) else 0) = 0 from if_neg c] at hd2 ⊢
    exact gv_cz (by decide) (fun _ => gv_ret (gv_put (gv_rd hd2 (gv_cz (by decide) (fun h => absurd rfl h) (fun _ => gv_ret ⟨rfl, by decide, hf0.mono (by decide)⟩))))) (fun h => absurd rfl h)
theorem c_least {w : Int} (a : -2147483648 ≤ w ∧ w ≤ 2147483647) (hs : iSt ν) (h : iNt ν) : gb (g_X11_least w) (g_X12_least w) T ν (fun r ν' => (-1 ≤ r ∧ r ≤ 1000) ∧ gfr wNt ν ν') := by
  have htop := hs.1
  have hf0 : gfr [-6902] ν (gup ν (-6902) 0 0) := (gfr.refl _ _).up (by decide)
  have hd2 := d_X12_isIn (T := T) (ν := gup ν (-6902) 0 0) (x := w) (a := 0) (b := 1) a (by decide) (by decide)
  have hin := ldG_in (dC ν) 0 (ν (-200) 0).toNat 1 0 (by omega) (by omega) (by omega)
  unfold gb g_X11_least g_X12_least
  refine gv_rd (d_X11_isWithin a (by decide)) ?_
  by_cases c : 0 ≤ w ∧ w ≤ 1
  · rw [show (if 0 ≤ w ∧ w ≤ 1 then (1 : Int) else 0) = 1 from if_pos c] at hd2 ⊢
    refine gv_cz (by decide) (fun _ => gv_rd (d_X3_leastDoubted h.1 hs.nD3 hs.1) ?_) (fun h => absurd (by decide) h)
    have hrest : ∀ r : Int, (∀ ν' : gN, nR ν' → (∀ i : Int, 0 ≤ i → i < ν' (-6957) 0 → ν' 100 i = 0 ∨ ν' 100 i = 1) → nD ν' 71 → dR ν' = dC ν → gfr [-6902, 100] ν ν' → gv (gcz w (¬ w = 0) (gret (ldG (dC ν) (ν (-200) 0).toNat 1 0)) (gbd (g_X12_doubtOf (ldG (dC ν) (ν (-200) 0).toNat 1 0)) (fun v31 => gret v31))) T ν' (fun r2 ν2 => r2 = r ∧ (-1 ≤ r ∧ r ≤ 1000) ∧ gfr wNt ν ν2)) → gv (gput (-6902) 0 (gbd (g_X12_isIn w 0 1) (fun v8 => gcz v8 (¬ v8 = 0) (gbd g_X12_layCounts (fun _ => gbd g_X12_leastDoubted (fun v21 => gcz w (¬ w = 0) (gret v21) (gbd (g_X12_doubtOf v21) (fun v31 => gret v31))))) (gret (-1))))) T ν (fun r2 ν2 => r2 = r ∧ (-1 ≤ r ∧ r ≤ 1000) ∧ gfr wNt ν ν2) := fun r hr => by
      refine gv_put (gv_rd hd2 (gv_cz (by decide) (fun _ => gv_call (nt_lay hs h) (fun _ ν' hh => ?_)) (fun h => absurd (by decide) h)))
      obtain ⟨q1, q2, q3, q4, q5, q6, q7, q8⟩ := hh
      have hl := d_X12_leastDoubted (T := T) q2 q3 q4 q5
      rw [q6, q7] at hl
      exact gv_rd hl (hr ν' q2 q3 q4 q7 q1)
    have h40 := dC40 h.1 (ldG (dC ν) (ν (-200) 0).toNat 1 0)
    refine gv_cz a (fun c2 => gv_ret (hrest _ (fun ν' q2 q3 q4 q7 q1 => gv_cz a (fun _ => gv_ret ⟨rfl, by omega, q1.mono (by decide)⟩) (fun h => absurd c2 h)))) (fun c2 => gv_rd (d_X3_wrongAt h.1 hs.nD3 (by omega)) (gv_ret (hrest _ (fun ν' q2 q3 q4 q7 q1 => gv_cz a (fun h => absurd h c2) (fun _ => gv_rd (d_X12_doubtOf q2 q3 q4 (by omega)) (gv_ret ⟨by rw [q7], by omega, q1.mono (by decide)⟩))))))
  · rw [show (if 0 ≤ w ∧ w ≤ 1 then (1 : Int) else 0) = 0 from if_neg c] at hd2 ⊢
    exact gv_cz (by decide) (fun h => absurd rfl h) (fun _ => gv_ret (gv_put (gv_rd hd2 (gv_cz (by decide) (fun h => absurd rfl h) (fun _ => gv_ret ⟨rfl, by decide, hf0.mono (by decide)⟩)))))
theorem c_doubted {w : Int} (a : -2147483648 ≤ w ∧ w ≤ 2147483647) (hs : iSt ν) (h : iNt ν) : gb (g_X11_doubted w) (g_X12_doubted w) T ν (fun r ν' => (-1 ≤ r ∧ r ≤ 1000) ∧ gfr wNt ν ν') := by
  have htop := hs.1
  have hf0 : gfr [-6902] ν (gup ν (-6902) 0 0) := (gfr.refl _ _).up (by decide)
  have hd2 := d_X12_isIn (T := T) (ν := gup ν (-6902) 0 0) (x := w) (a := 0) (b := 5) a (by decide) (by decide)
  have hin := ldG_in (dC ν) 0 (ν (-200) 0).toNat 1 0 (by omega) (by omega) (by omega)
  unfold gb g_X11_doubted g_X12_doubted
  refine gv_rd (d_X11_isWithin a (by decide)) ?_
  by_cases c : 0 ≤ w ∧ w ≤ 5
  · rw [show (if 0 ≤ w ∧ w ≤ 5 then (1 : Int) else 0) = 1 from if_pos c] at hd2 ⊢
    have hn := h.1
    have hb : 0 ≤ bC ν w (ldG (dC ν) (ν (-200) 0).toNat 1 0) ∧ bC ν w (ldG (dC ν) (ν (-200) 0).toNat 1 0) ≤ 40 := by
      have h1 := gsum01 (f := fun i => if ν 54 i = w then dc ν i (ldG (dC ν) (ν (-200) 0).toNat 1 0) else 0) (ν (-5300) 0).toNat (fun i => by
        have := dc01 ν i (ldG (dC ν) (ν (-200) 0).toNat 1 0)
        show 0 ≤ (if ν 54 i = w then dc ν i (ldG (dC ν) (ν (-200) 0).toNat 1 0) else 0) ∧ (if ν 54 i = w then dc ν i (ldG (dC ν) (ν (-200) 0).toNat 1 0) else 0) ≤ 1
        split <;> omega)
      have h2 := hn.1
      have h3 := hn.2.1
      unfold bC
      omega
    refine gv_cz (by decide) (fun _ => gv_rd (d_X3_leastDoubted h.1 hs.nD3 hs.1) (gv_rd (d_X3_wrongBy h.1 (fun i i1 i2 => h.2.2.1 i i1 (by have := hn.2.1; omega)) hs.nD3 (by omega) c) (gv_ret (gv_put (gv_rd hd2 (gv_cz (by decide) (fun _ => gv_call (nt_lay hs h) (fun _ ν' hh => ?_)) (fun h => absurd (by decide) h))))))) (fun h => absurd (by decide) h)
    obtain ⟨q1, q2, q3, q4, q5, q6, q7, q8⟩ := hh
    have hl := d_X12_leastDoubted (T := T) q2 q3 q4 q5
    rw [q6, q7] at hl
    refine gv_rd hl ⟨_, _, d_X12_doubted_30 q2 q3 q4 (by omega) c, q8 _ _ c.1, by omega, q1.mono (by decide)⟩
  · rw [show (if 0 ≤ w ∧ w ≤ 5 then (1 : Int) else 0) = 0 from if_neg c] at hd2 ⊢
    exact gv_cz (by decide) (fun h => absurd rfl h) (fun _ => gv_ret (gv_put (gv_rd hd2 (gv_cz (by decide) (fun h => absurd rfl h) (fun _ => gv_ret ⟨rfl, by decide, hf0.mono (by decide)⟩)))))
theorem c_parts {k : Int} (a : -2147483648 ≤ k ∧ k ≤ 2147483647) (hs : iSt ν) (h : iNt ν) : gb (g_X11_parts k) (g_X12_parts k) T ν (fun r ν' => (-1 ≤ r ∧ r ≤ 1000) ∧ gfr wNt ν ν') := by
  have htop := hs.1
  unfold gb
  refine (s_X11_parts h.1 a hs.nD3 hs.1 hs.2.2.1).mono ?_
  intro r ν1 h1
  obtain ⟨p1, p2⟩ := h1
  have hs1 : iSt ν1 := iSt_eq (p2.eq (by decide)) hs
  have hn1 : iNt ν1 := iNt_eq (p2.eq (by decide)) h
  have edC : dC ν1 = dC ν := funext (fun t => by unfold dC dc; rw [p2 (-5300) (by decide), p2 59 (by decide), p2 58 (by decide), p2 57 (by decide), p2 56 (by decide), p2 55 (by decide), p2 3 (by decide)])
  have hf0 : gfr [-6902, 60] ν (gup ν1 (-6902) 0 0) := (p2.mono (by decide)).up (by decide)
  unfold g_X12_parts
  refine gv_put (gv_tz (k1 := gret 0) (k2 := gret 0) (d_X12_isKind a) (fun c => gv_cz (by decide) (fun _ => gv_call (nt_lay hs1 hn1) (fun _ ν' hh => ?_)) (fun h => absurd (by decide) h)) (fun c => gv_cz (by decide) (fun h => absurd rfl h) (fun _ => gv_ret ⟨by rw [p1, if_neg c], by rw [p1, if_neg c]; decide, hf0.mono (by decide)⟩)))
  obtain ⟨q1, q2, q3, q4, q5, q6, q7, q8⟩ := hh
  have hf : gfr wNt ν ν' := (p2.mono (by decide)).trans (q1.mono (by decide))
  refine ⟨_, _, d_X12_parts_25 q2 q3 c q4 q5 (fun t t1 t2 => by rw [hf 74 (by decide), hs.2.2.2.2.2.2.2.1 t t1 t2]; exact hs.2.2.1 t t1 t2), ?_, ?_, hf⟩
  · rw [p1, if_pos c, q6, q7, edC, p2 (-200) (by decide), hf 74 (by decide), hf 71 (by decide), (hs.2.2.2.2.2.2.1 k c.1 c.2).1]
    exact prt_congr _ _ (fun _ _ _ => rfl) (fun t t1 t2 => hs.2.2.2.2.2.2.2.1 t t1 (by omega))
  · rw [p1, if_pos c]
    unfold prt
    by_cases g : afG (dC ν) ((ν (-200) 0).toNat + 1) = 0
    · rw [if_pos g]; decide
    · rw [if_neg g]
      have := ldG_in (fun s => pab (pdf (dC ν) (ν 6) (ν 3 k) s ((ν (-200) 0).toNat + 1))) 1 ((ν (-200) 0).toNat - 1) 2 1 (by omega) (by omega) (by omega)
      omega
end
