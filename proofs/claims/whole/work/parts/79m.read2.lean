/-! PLAN: what the reference asks of its token -/
def isOp (k : Int) : Prop := k = 10 ∨ k = 11 ∨ (21 ≤ k ∧ k ≤ 30)
theorem pz_14 {x : Int} (h : 0 ≤ x ∧ x ≤ 14) : 0 ≤ pz x ∧ pz x ≤ 14 := by
  unfold pz
  repeat' split
  all_goals omega
theorem pz_pz (x : Int) : pz (pz x) = x := by
  unfold pz
  repeat' split
  all_goals omega
section
variable {T : gT} {ν : gN} {kd nm : Int}
theorem d_X12_isKey {w v : Int} (hw : ν (-6915) 0 = w) (hv : ν (-6916) 0 = v) (a : 0 ≤ w ∧ w ≤ 5) (hin : w = 1 → -10 ≤ v ∧ v ≤ 10000) {x : Int} (hx : -100 ≤ x ∧ x ≤ 100) : gd (g_X12_isKey x) T ν (if w = 1 ∧ v = x then 1 else 0) := by
  unfold g_X12_isKey
  refine gd_get ?_
  rw [hw]
  refine gd_cb ⟨⟨by omega, by omega⟩, ⟨by omega, by omega⟩⟩ (fun c => by rw [if_neg (fun g => c g.1)]; exact gd_ret) (fun c => gd_get ?_)
  have := hin (by omega)
  rw [hv]
  exact gd_cb ⟨⟨by omega, by omega⟩, ⟨by omega, by omega⟩⟩ (fun c2 => by rw [if_neg (fun g => c2 g.2)]; exact gd_ret) (fun c2 => by rw [if_pos (by omega)]; exact gd_ret)
theorem d_X12_isSign {w v : Int} (hw : ν (-6915) 0 = w) (hv : ν (-6916) 0 = v) (a : 0 ≤ w ∧ w ≤ 5) (hin : w = 3 → -10 ≤ v ∧ v ≤ 10000) {x : Int} (hx : -100 ≤ x ∧ x ≤ 100) : gd (g_X12_isSign x) T ν (if w = 3 ∧ v = x then 1 else 0) := by
  unfold g_X12_isSign
  refine gd_get ?_
  rw [hw]
  refine gd_cb ⟨⟨by omega, by omega⟩, ⟨by omega, by omega⟩⟩ (fun c => by rw [if_neg (fun g => c g.1)]; exact gd_ret) (fun c => gd_get ?_)
  have := hin (by omega)
  rw [hv]
  exact gd_cb ⟨⟨by omega, by omega⟩, ⟨by omega, by omega⟩⟩ (fun c2 => by rw [if_neg (fun g => c2 g.2)]; exact gd_ret) (fun c2 => by rw [if_pos (by omega)]; exact gd_ret)
theorem tkR.in {w v : Int} (h : tkR kd nm w v) : (0 ≤ w ∧ w ≤ 5) ∧ (w = 1 → -10 ≤ v ∧ v ≤ 10000) ∧ (w = 3 → -10 ≤ v ∧ v ≤ 10000) ∧ (w = 4 → 0 ≤ v ∧ v ≤ 5) ∧ (0 ≤ kd ∧ kd ≤ 30) := by
  unfold tkR at h
  have hp : (6 ≤ kd ∧ kd ≤ 20) → 0 ≤ pz (kd - 6) ∧ pz (kd - 6) ≤ 14 := fun g => pz_14 (by omega)
  rcases h with g | g | g | g | g | g
  · omega
  · omega
  · omega
  · have := hp g.1; omega
  · omega
  · omega
/-- a word of the token, in the class's kinds -/
theorem d_key (h : tkR kd nm (ν (-6915) 0) (ν (-6916) 0)) {x : Int} (hx : 0 ≤ x ∧ x ≤ 14) : gd (g_X12_isKey x) T ν (if kd = 6 + pz x then 1 else 0) := by
  have hi := h.in
  have hd := d_X12_isKey (T := T) (ν := ν) (x := x) rfl rfl hi.1 hi.2.1 (by omega)
  have hpz : ∀ y : Int, pz (pz y) = y := pz_pz
  have hpx := pz_14 hx
  by_cases c : kd = 6 + pz x
  · rw [if_pos c]
    have : ν (-6915) 0 = 1 ∧ ν (-6916) 0 = x := by
      unfold tkR at h
      rcases h with g | g | g | g | g | g
      · omega
      · omega
      · omega
      · refine ⟨g.2.1, ?_⟩
        rw [g.2.2, show kd - 6 = pz x by omega, hpz]
      · omega
      · omega
    rw [if_pos this] at hd
    exact hd
  · rw [if_neg c]
    have : ¬ (ν (-6915) 0 = 1 ∧ ν (-6916) 0 = x) := fun hh => by
      unfold tkR at h
      rcases h with g | g | g | g | g | g
      · omega
      · omega
      · omega
      · have e := g.2.2
        rw [hh.2] at e
        have := hpz (kd - 6)
        rw [← e] at this
        omega
      · omega
      · omega
    rw [if_neg this] at hd
    exact hd
/-- a sign of the token, in the class's kinds -/
theorem d_sign (h : tkR kd nm (ν (-6915) 0) (ν (-6916) 0)) {x k : Int} (hx : (k = 3 ∧ x = 40) ∨ (k = 4 ∧ x = 41) ∨ (k = 5 ∧ x = 59) ∨ (k = 27 ∧ x = 43) ∨ (k = 28 ∧ x = 45) ∨ (k = 29 ∧ x = 42) ∨ (k = 30 ∧ x = 47)) : gd (g_X12_isSign x) T ν (if kd = k then 1 else 0) := by
  have hi := h.in
  have hd := d_X12_isSign (T := T) (ν := ν) (x := x) rfl rfl hi.1 hi.2.2.1 (by omega)
  have hiff : (ν (-6915) 0 = 3 ∧ ν (-6916) 0 = x) ↔ kd = k := by
    unfold tkR at h
    rcases h with g | g | g | g | g | g
    · constructor <;> intro hh <;> omega
    · constructor <;> intro hh <;> omega
    · constructor <;> intro hh <;> omega
    · constructor <;> intro hh <;> omega
    · constructor <;> intro hh <;> omega
    · constructor <;> intro hh <;> omega
  by_cases c : kd = k
  · rw [if_pos c]; rw [if_pos (hiff.mpr c)] at hd; exact hd
  · rw [if_neg c]; rw [if_neg (fun g => c (hiff.mp g))] at hd; exact hd
end
