/-! NOTES -/
section
variable {T : gT} {ν : gN}
theorem d_X8_breaks {k s t : Int} (hk : 0 ≤ k ∧ k < 3) (hs : -2147483648 ≤ s ∧ s ≤ 2147483647) (ht : -1000 ≤ t ∧ t ≤ 1000) (hd : -9 ≤ ν 3 k ∧ ν 3 k ≤ 9) : gd (g_X8_breaks k s t) T ν (if s ≤ t + ν 3 k then 0 else 1) := by
  unfold g_X8_breaks
  refine gd_al hk (gd_ck ⟨hs, ⟨by omega, by omega⟩⟩ (gd_let (gd_ck ?_ gd_ret)))
  by_cases c : s ≤ t + ν 3 k
  · rw [if_pos c]; exact Or.inl rfl
  · rw [if_neg c]; exact Or.inr rfl
theorem d_X12_breaks {k s t : Int} (hk : 0 ≤ k ∧ k < 3) (hs : -2147483648 ≤ s ∧ s ≤ 2147483647) (ht : -1000 ≤ t ∧ t ≤ 1000) (hd : -9 ≤ ν 71 k ∧ ν 71 k ≤ 9) : gd (g_X12_breaks t k s) T ν (if s ≤ t + ν 71 k then 0 else 1) := by
  unfold g_X12_breaks
  refine gd_al hk (gd_ck ⟨by omega, by omega⟩ (gd_ck ⟨⟨by omega, by omega⟩, ⟨by omega, by omega⟩⟩ (gd_let (gd_ck ?_ gd_ret))))
  by_cases c : s ≤ t + ν 71 k
  · rw [if_pos c]; exact Or.inl rfl
  · rw [if_neg c]; exact Or.inr rfl
/-- whether a note speaks against a strength: by the book's rows, and by the reference's -/
def dc (ν : gN) (i t : Int) : Int := if ν 59 i = 0 then 0 else if ν 58 i = -1 then (if (if ν 56 i ≤ t + ν 3 (ν 55 i) then (0 : Int) else 1) = ν 57 i then 0 else 1) else 0
def dr (ν : gN) (i t : Int) : Int := if ν 100 i = 0 then 0 else if ν 96 i < 0 then 0 else (if (if ν 98 i ≤ t + ν 71 (ν 97 i) then (0 : Int) else 1) = ν 99 i then 0 else 1)
/-- the book in order -/
def nC (ν : gN) : Prop := 0 ≤ ν (-5300) 0 ∧ ν (-5300) 0 ≤ 40 ∧ ∀ i : Int, 0 ≤ i → i < ν (-5300) 0 → (ν 59 i = 0 ∨ ν 59 i = 1) ∧ ((0 ≤ ν 58 i ∧ ν 58 i < i) ∨ (ν 58 i = -1 ∧ (0 ≤ ν 55 i ∧ ν 55 i < 3) ∧ (1 ≤ ν 56 i ∧ ν 56 i ≤ 40) ∧ (ν 57 i = 0 ∨ ν 57 i = 1)))
def nR (ν : gN) : Prop := 0 ≤ ν (-6957) 0 ∧ ν (-6957) 0 ≤ 40 ∧ ∀ i : Int, 0 ≤ i → i < ν (-6957) 0 → ((ν 96 i = -1 ∧ 0 ≤ ν 98 i ∧ ν 98 i < i) ∨ ((0 ≤ ν 96 i ∧ ν 96 i ≤ 5) ∧ (0 ≤ ν 97 i ∧ ν 97 i < 3) ∧ (1 ≤ ν 98 i ∧ ν 98 i ≤ 40) ∧ (ν 99 i = 0 ∨ ν 99 i = 1)))
def nD (ν : gN) (a : Int) : Prop := ∀ k : Int, 0 ≤ k → k < 3 → -9 ≤ ν a k ∧ ν a k ≤ 9
theorem dc01 (ν : gN) (i t : Int) : 0 ≤ dc ν i t ∧ dc ν i t ≤ 1 := by
  unfold dc
  split
  · omega
  · split
    · split
      · omega
      · omega
    · omega
theorem dr01 (ν : gN) (i t : Int) : 0 ≤ dr ν i t ∧ dr ν i t ≤ 1 := by
  unfold dr
  split
  · omega
  · split
    · omega
    · split
      · omega
      · omega
theorem d_X3_isWrong {i t : Int} (h : nC ν) (hd : nD ν 3) (hi : 0 ≤ i ∧ i < ν (-5300) 0) (ht : -1000 ≤ t ∧ t ≤ 1000) : gd (g_X3_isWrong i t) T ν (dc ν i t) := by
  obtain ⟨h1, h2, h3⟩ := h
  obtain ⟨g1, g2⟩ := h3 i hi.1 hi.2
  unfold g_X3_isWrong dc
  refine gd_al ⟨by omega, by omega⟩ (gd_cz ⟨by omega, by omega⟩ (fun c => ?_) (fun c => ?_))
  · rw [if_pos c]; exact gd_ret
  · rw [if_neg c]
    refine gd_al ⟨by omega, by omega⟩ (gd_cb ⟨⟨by omega, by omega⟩, ⟨by omega, by omega⟩⟩ (fun c2 => ?_) (fun c2 => ?_))
    · rw [if_neg c2]; exact gd_ret
    · have c3 : ν 58 i = -1 := by omega
      rw [if_pos c3]
      rcases g2 with g2 | ⟨-, g3, g4, g5⟩
      · omega
      · refine gd_al ⟨by omega, by omega⟩ (gd_al ⟨by omega, by omega⟩ (gd_rd (d_X8_breaks g3 ⟨by omega, by omega⟩ ht (hd _ g3.1 g3.2)) (gd_al ⟨by omega, by omega⟩ ?_)))
        by_cases c4 : (if ν 56 i ≤ t + ν 3 (ν 55 i) then (0 : Int) else 1) = ν 57 i
        · rw [if_pos c4, c4]
          exact gd_cb ⟨⟨by omega, by omega⟩, ⟨by omega, by omega⟩⟩ (fun _ => gd_ret) (fun h => absurd rfl h)
        · rw [if_neg c4]
          refine gd_cb ⟨?_, by omega⟩ (fun h => absurd h c4) (fun _ => gd_ret)
          split <;> omega
theorem d_X12_isAgainst {i t : Int} (h : nR ν) (hc : ν 100 i = 0 ∨ ν 100 i = 1) (hd : nD ν 71) (hi : 0 ≤ i ∧ i < ν (-6957) 0) (ht : -1000 ≤ t ∧ t ≤ 1000) : gd (g_X12_isAgainst i t) T ν (dr ν i t) := by
  obtain ⟨h1, h2, h3⟩ := h
  have g2 := h3 i hi.1 hi.2
  unfold g_X12_isAgainst dr
  refine gd_al ⟨by omega, by omega⟩ (gd_cz ⟨by omega, by omega⟩ (fun c => ?_) (fun c => ?_))
  · rw [if_pos c]; exact gd_ret
  · rw [if_neg c]
    refine gd_al ⟨by omega, by omega⟩ (gd_cz ⟨by omega, by omega⟩ (fun c2 => ?_) (fun c2 => ?_))
    · rw [if_pos c2]; exact gd_ret
    · rw [if_neg c2]
      rcases g2 with g2 | ⟨-, g3, g4, g5⟩
      · omega
      · refine gd_al ⟨by omega, by omega⟩ (gd_al ⟨by omega, by omega⟩ (gd_ck ⟨by omega, by omega⟩ (gd_rd (d_X12_breaks g3 ⟨by omega, by omega⟩ ht (hd _ g3.1 g3.2)) (gd_al ⟨by omega, by omega⟩ ?_))))
        by_cases c4 : (if ν 98 i ≤ t + ν 71 (ν 97 i) then (0 : Int) else 1) = ν 99 i
        · rw [if_pos c4, c4]
          exact gd_cb ⟨⟨by omega, by omega⟩, ⟨by omega, by omega⟩⟩ (fun _ => gd_ret) (fun h => absurd rfl h)
        · rw [if_neg c4]
          refine gd_cb ⟨?_, by omega⟩ (fun h => absurd h c4) (fun _ => gd_ret)
          split <;> omega
theorem gsum01 {f : Int → Int} : ∀ n : Nat, (∀ i : Int, 0 ≤ f i ∧ f i ≤ 1) → 0 ≤ gsum f n ∧ gsum f n ≤ n := by
  intro n h
  induction n with
  | zero => exact ⟨Int.le_refl _, Int.le_refl _⟩
  | succ n ih =>
    have := h n
    show 0 ≤ gsum f n + f n ∧ gsum f n + f n ≤ ((n + 1 : Nat) : Int)
    omega
/-- the doubt of a strength -/
def dC (ν : gN) (t : Int) : Int := gsum (fun i => dc ν i t) (ν (-5300) 0).toNat
def dR (ν : gN) (t : Int) : Int := gsum (fun i => dr ν i t) (ν (-6957) 0).toNat
theorem dC40 (h : nC ν) (t : Int) : 0 ≤ dC ν t ∧ dC ν t ≤ 40 := by
  have h1 := gsum01 (ν (-5300) 0).toNat (fun i => dc01 ν i t)
  have h2 := h.1
  have h3 := h.2.1
  unfold dC
  omega
theorem dR40 (h : nR ν) (t : Int) : 0 ≤ dR ν t ∧ dR ν t ≤ 40 := by
  have h1 := gsum01 (ν (-6957) 0).toNat (fun i => dr01 ν i t)
  have h2 := h.1
  have h3 := h.2.1
  unfold dR
  omega
theorem d_X3_wrongAt {t : Int} (h : nC ν) (hd : nD ν 3) (ht : -1000 ≤ t ∧ t ≤ 1000) : gd (g_X3_wrongAt t) T ν (dC ν t) := by
  have h1 := h.1
  have h2 := h.2.1
  unfold g_X3_wrongAt g_X3_wrongAt_5
  refine gd_fx (fun (s : Int × Int) => ∃ j : Nat, s.2 = j ∧ j ≤ ν (-5300) 0 ∧ s.1 = gsum (fun i => dc ν i t) j) (fun s => 40 - s.2.toNat) ⟨0, rfl, by omega, rfl⟩ (by show 40 - (0 : Int).toNat < 100000; omega) ?_
  intro rec s hI hrec
  obtain ⟨j, e2, hj, e1⟩ := hI
  unfold gB_X3_wrongAt_5
  refine gd_get ?_
  rw [e2]
  refine gd_cb ⟨⟨by omega, by omega⟩, ⟨by omega, by omega⟩⟩ (fun c => ?_) (fun c => gd_rd (d_X3_isWrong h hd ⟨by omega, by omega⟩ ht) ?_)
  · rw [e1, show j = (ν (-5300) 0).toNat by omega]; exact gd_ret
  · have h01 := dc01 ν j t
    unfold g_X3_wrongAt_28
    refine gd_cz ⟨by omega, by omega⟩ (fun c2 => gd_let (hrec _ ⟨j + 1, by show (j : Int) + 1 = _; omega, by omega, ?_⟩ ?_)) (fun c2 => gd_let (gd_let (hrec _ ⟨j + 1, by show (j : Int) + 1 = _; omega, by omega, ?_⟩ ?_)))
    · show s.1 = gsum _ j + dc ν j t
      rw [e1]; omega
    · show 40 - ((j : Int) + 1).toNat < 40 - s.2.toNat
      rw [e2]; omega
    · show s.1 + 1 = gsum _ j + dc ν j t
      rw [e1]; omega
    · show 40 - ((j : Int) + 1).toNat < 40 - s.2.toNat
      rw [e2]; omega
theorem d_X12_doubtOf {t : Int} (h : nR ν) (hc : ∀ i : Int, 0 ≤ i → i < ν (-6957) 0 → ν 100 i = 0 ∨ ν 100 i = 1) (hd : nD ν 71) (ht : -1000 ≤ t ∧ t ≤ 1000) : gd (g_X12_doubtOf t) T ν (dR ν t) := by
  have h1 := h.1
  have h2 := h.2.1
  unfold g_X12_doubtOf g_X12_doubtOf_4
  refine gd_fx (fun (s : Int × Int) => ∃ j : Nat, s.2 = j ∧ j ≤ ν (-6957) 0 ∧ s.1 = gsum (fun i => dr ν i t) j) (fun s => 40 - s.2.toNat) ⟨0, rfl, by omega, rfl⟩ (by show 40 - (0 : Int).toNat < 100000; omega) ?_
  intro rec s hI hrec
  obtain ⟨j, e2, hj, e1⟩ := hI
  unfold gB_X12_doubtOf_4
  refine gd_get ?_
  rw [e2]
  refine gd_cb ⟨⟨by omega, by omega⟩, ⟨by omega, by omega⟩⟩ (fun c => ?_) (fun c => gd_rd (d_X12_isAgainst h (hc j (by omega) (by omega)) hd ⟨by omega, by omega⟩ ht) ?_)
  · rw [e1, show j = (ν (-6957) 0).toNat by omega]; exact gd_ret
  · have h01 := dr01 ν j t
    refine gd_ck ⟨by omega, by omega⟩ (gd_let (gd_let (gd_let (hrec _ ⟨j + 1, by show (j : Int) + 1 = _; omega, by omega, ?_⟩ ?_))))
    · show s.1 + (if dr ν j t = 0 then 0 else 1) = gsum _ j + dr ν j t
      rw [e1]
      split <;> omega
    · show 40 - ((j : Int) + 1).toNat < 40 - s.2.toNat
      rw [e2]; omega
/-! what is asked of the doubts W -/
def fitG (W : Int → Int) (k : Int) : Nat → Int → Int → Int
  | 0, _, found => if k = -1 then found else -1
  | n + 1, t, found => if W t = 0 then (if found = k then t else fitG W k n (t + 1) (found + 1)) else fitG W k n (t + 1) found
def ldG (W : Int → Int) : Nat → Int → Int → Int
  | 0, _, first => first
  | n + 1, t, first => ldG W n (t + 1) (if W t < W first then t else first)
theorem ldG_in (W : Int → Int) (a : Int) : ∀ (n : Nat) (t first : Int), a ≤ first → a ≤ t → first < t + n → a ≤ ldG W n t first ∧ ldG W n t first < t + n := by
  intro n
  induction n with
  | zero => intro t first h1 h2 h3; exact ⟨h1, h3⟩
  | succ n ih =>
    intro t first h1 h2 h3
    have h4 := ih (t + 1) (if W t < W first then t else first) (by split <;> omega) (by omega) (by split <;> omega)
    show a ≤ ldG W n (t + 1) (if W t < W first then t else first) ∧ ldG W n (t + 1) (if W t < W first then t else first) < t + ((n + 1 : Nat) : Int)
    omega
theorem fitG_congr {W W' : Int → Int} (k : Int) : ∀ (n : Nat) (t found : Int), (∀ u : Int, t ≤ u → u < t + n → W u = W' u) → fitG W k n t found = fitG W' k n t found := by
  intro n
  induction n with
  | zero => intro t found _; rfl
  | succ n ih =>
    intro t found h
    show (if W t = 0 then (if found = k then t else fitG W k n (t + 1) (found + 1)) else fitG W k n (t + 1) found) = (if W' t = 0 then (if found = k then t else fitG W' k n (t + 1) (found + 1)) else fitG W' k n (t + 1) found)
    rw [h t (by omega) (by omega), ih (t + 1) (found + 1) (fun u h1 h2 => h u (by omega) (by omega)), ih (t + 1) found (fun u h1 h2 => h u (by omega) (by omega))]
theorem ldG_congr {W W' : Int → Int} (a : Int) : ∀ (n : Nat) (t first : Int), a ≤ first → a ≤ t → first < t → (∀ u : Int, a ≤ u → u < t + n → W u = W' u) → ldG W n t first = ldG W' n t first := by
  intro n
  induction n with
  | zero => intro t first _ _ _ _; rfl
  | succ n ih =>
    intro t first h1 h2 h3 h
    show ldG W n (t + 1) (if W t < W first then t else first) = ldG W' n (t + 1) (if W' t < W' first then t else first)
    rw [h t h2 (by omega), h first h1 (by omega)]
    exact ih (t + 1) _ (by split <;> omega) (by omega) (by split <;> omega) (fun u h4 h5 => h u h4 (by omega))
theorem d_X11_fitting {k : Int} (h : nC ν) (hd : nD ν 3) (hk : -2147483648 ≤ k ∧ k ≤ 2147483647) (ht : 1 ≤ ν (-200) 0 ∧ ν (-200) 0 ≤ 40) : gd (g_X11_fitting k) T ν (fitG (dC ν) k ((ν (-200) 0).toNat + 1) 0 0) := by
  unfold g_X11_fitting g_X11_fitting_4
  refine gd_fx (fun (s : Int × Int) => ∃ j : Nat, s.2 = j ∧ j ≤ ν (-200) 0 + 1 ∧ (0 ≤ s.1 ∧ s.1 ≤ j) ∧ fitG (dC ν) k ((ν (-200) 0).toNat + 1 - j) j s.1 = fitG (dC ν) k ((ν (-200) 0).toNat + 1) 0 0) (fun s => 50 - s.2.toNat) ⟨0, rfl, by omega, ⟨by show (0 : Int) ≤ 0; omega, by show (0 : Int) ≤ _; omega⟩, rfl⟩ (by show 50 - (0 : Int).toNat < 100000; omega) ?_
  intro rec s hI hrec
  obtain ⟨j, e2, hj, hs, e1⟩ := hI
  rw [← e1]
  unfold gB_X11_fitting_4 g_X11_fitting_40
  refine gd_get ?_
  rw [e2]
  refine gd_cb ⟨⟨by omega, by omega⟩, ⟨by omega, by omega⟩⟩ (fun c => gd_ck ⟨hk, by decide⟩ (gd_let ?_)) (fun c => gd_rd (d_X3_wrongAt h hd ⟨by omega, by omega⟩) ?_)
  · rw [show (ν (-200) 0).toNat + 1 - j = 0 by omega]
    show gd (gret (if ¬k = -1 then -1 else s.1)) T ν (if k = -1 then s.1 else -1)
    by_cases c2 : k = -1
    · rw [if_pos c2, if_neg (fun h => h c2)]; exact gd_ret
    · rw [if_neg c2, if_pos c2]; exact gd_ret
  · have hb := dC40 h j
    obtain ⟨m, hm⟩ : ∃ m, (ν (-200) 0).toNat + 1 - j = m + 1 := ⟨(ν (-200) 0).toNat - j, by omega⟩
    have hm2 : (ν (-200) 0).toNat + 1 - (j + 1) = m := by omega
    rw [hm] at e1
    rw [hm]
    have hz : 50 - ((j : Int) + 1).toNat < 50 - s.2.toNat := by rw [e2]; omega
    show gd _ T ν (if dC ν j = 0 then (if s.1 = k then (j : Int) else fitG (dC ν) k m (j + 1) (s.1 + 1)) else fitG (dC ν) k m (j + 1) s.1)
    replace e1 : (if dC ν j = 0 then (if s.1 = k then (j : Int) else fitG (dC ν) k m (j + 1) (s.1 + 1)) else fitG (dC ν) k m (j + 1) s.1) = _ := e1
    refine gd_cz ⟨by omega, by omega⟩ (fun c2 => gd_let ?_) (fun c2 => gd_cb ⟨by omega, hk⟩ (fun c3 => gd_let (gd_let ?_)) (fun c3 => ?_))
    · rw [if_neg c2] at e1
      rw [if_neg c2, e1]
      refine hrec _ ⟨j + 1, by show (j : Int) + 1 = _; omega, by omega, ⟨hs.1, by show s.1 ≤ ((j + 1 : Nat) : Int); omega⟩, ?_⟩ hz
      rw [hm2]; exact e1
    · rw [if_pos (by omega), if_neg c3] at e1
      rw [if_pos (by omega), if_neg c3, e1]
      refine hrec _ ⟨j + 1, by show (j : Int) + 1 = _; omega, by omega, ⟨by show 0 ≤ s.1 + 1; omega, by show s.1 + 1 ≤ ((j + 1 : Nat) : Int); omega⟩, ?_⟩ hz
      rw [hm2]; exact e1
    · rw [if_pos (by omega), if_pos (by omega)]; exact gd_ret
end
