/-! PLAN: signs and their ranks -/
/-- the reference's sign for a kind that the class holds -/
def sg (k : Int) : Int := if k = 3 then 0 else if k = 9 then 2 else if k = 10 then 4 else if k = 11 then 3 else k - 16
def hk (k : Int) : Prop := k = 3 ∨ (9 ≤ k ∧ k ≤ 11) ∨ (21 ≤ k ∧ k ≤ 30)
def bnd (k : Int) : Int := if k = 10 then 1 else if k = 11 then 2 else if k = 9 then 3 else if 21 ≤ k ∧ k ≤ 26 then 4 else if k = 27 ∨ k = 28 then 5 else if k = 29 ∨ k = 30 then 6 else 0
section
variable {T : gT} {ν : gN}
theorem d_X9_isComparison {k : Int} (h : -1000 ≤ k ∧ k ≤ 1000) : gd (g_X9_isComparison k) T ν (if 21 ≤ k ∧ k ≤ 26 then 1 else 0) := by
  unfold g_X9_isComparison
  exact gd_cb ⟨⟨by omega, by omega⟩, ⟨by omega, by omega⟩⟩ (fun c => by rw [if_neg (by omega)]; exact gd_ret) (fun c => gd_cb ⟨⟨by omega, by omega⟩, ⟨by omega, by omega⟩⟩ (fun c2 => by rw [if_neg (by omega)]; exact gd_ret) (fun c2 => by rw [if_pos (by omega)]; exact gd_ret))
theorem d_X9_bindingOf {k : Int} (h : -1000 ≤ k ∧ k ≤ 1000) : gd (g_X9_bindingOf k) T ν (bnd k) := by
  have e : ∀ v : Int, bnd k = v → gd (gret v : gM Int) T ν (bnd k) := fun v e => by rw [e]; exact gd_ret
  unfold g_X9_bindingOf
  refine gd_cb ⟨⟨by omega, by omega⟩, ⟨by omega, by omega⟩⟩ (fun c1 => gd_cb ⟨⟨by omega, by omega⟩, ⟨by omega, by omega⟩⟩ (fun c2 => gd_cb ⟨⟨by omega, by omega⟩, ⟨by omega, by omega⟩⟩ (fun c3 => gd_rd (d_X9_isComparison h) ?_) (fun c3 => e 3 ?_)) (fun c2 => e 2 ?_)) (fun c1 => e 1 ?_)
  · by_cases c4 : 21 ≤ k ∧ k ≤ 26
    · rw [if_pos c4]
      refine gd_cz (by decide) (fun g => absurd g (by decide)) (fun _ => e 4 ?_)
      unfold bnd; rw [if_neg c1, if_neg c2, if_neg c3, if_pos c4]
    · rw [if_neg c4]
      have eb : bnd k = if k = 27 ∨ k = 28 then 5 else if k = 29 ∨ k = 30 then 6 else 0 := by unfold bnd; rw [if_neg c1, if_neg c2, if_neg c3, if_neg c4]
      refine gd_cz (by decide) (fun _ => gd_cb ⟨⟨by omega, by omega⟩, ⟨by omega, by omega⟩⟩ (fun c5 => e 5 ?_) (fun c5 => gd_cb ⟨⟨by omega, by omega⟩, ⟨by omega, by omega⟩⟩ (fun c6 => gd_cb ⟨⟨by omega, by omega⟩, ⟨by omega, by omega⟩⟩ (fun c7 => e 6 ?_) (fun c7 => gd_cb ⟨⟨by omega, by omega⟩, ⟨by omega, by omega⟩⟩ (fun c8 => e 0 ?_) (fun c8 => e 6 ?_))) (fun c6 => e 5 ?_))) (fun g => absurd rfl g)
      · rw [eb, if_pos (by omega)]
      · rw [eb, if_neg (by omega), if_pos (by omega)]
      · rw [eb, if_neg (by omega), if_neg (by omega)]
      · rw [eb, if_neg (by omega), if_pos (by omega)]
      · rw [eb, if_pos (by omega)]
  · unfold bnd; rw [if_neg c1, if_neg c2, if_pos (by omega)]
  · unfold bnd; rw [if_neg c1, if_pos (by omega)]
  · unfold bnd; rw [if_pos (by omega)]
/-- the reference's rank of a sign is the class's binding of its kind -/
theorem d_X12_rank {k : Int} (h : hk k) : gd (g_X12_rank (sg k)) T ν (bnd k) := by
  have hs : sg k = if k = 3 then 0 else if k = 9 then 2 else if k = 10 then 4 else if k = 11 then 3 else k - 16 := rfl
  have hb : bnd k = if k = 10 then 1 else if k = 11 then 2 else if k = 9 then 3 else if 21 ≤ k ∧ k ≤ 26 then 4 else if k = 27 ∨ k = 28 then 5 else if k = 29 ∨ k = 30 then 6 else 0 := rfl
  unfold hk at h
  have e : ∀ v : Int, bnd k = v → gd (gret v : gM Int) T ν (bnd k) := fun v e => by rw [e]; exact gd_ret
  have hin : 0 ≤ sg k ∧ sg k ≤ 14 := by rw [hs]; repeat' split
                                        all_goals omega
  have key : (sg k < 13 ∨ bnd k = 6) ∧ (¬ (sg k < 13) ∨ sg k < 11 ∨ bnd k = 5) ∧ (¬ (sg k < 11) ∨ sg k < 5 ∨ bnd k = 4) ∧ (sg k ≠ 2 ∨ bnd k = 3) ∧ (sg k ≠ 3 ∨ bnd k = 2) ∧ (sg k ≠ 4 ∨ bnd k = 1) ∧ (¬ (sg k < 5) ∨ sg k = 2 ∨ sg k = 3 ∨ sg k = 4 ∨ bnd k = 0) := by
    have hall : k = 3 ∨ k = 9 ∨ k = 10 ∨ k = 11 ∨ k = 21 ∨ k = 22 ∨ k = 23 ∨ k = 24 ∨ k = 25 ∨ k = 26 ∨ k = 27 ∨ k = 28 ∨ k = 29 ∨ k = 30 := by omega
    rcases hall with e | e | e | e | e | e | e | e | e | e | e | e | e | e <;> subst e <;> decide
  unfold g_X12_rank
  exact gd_cb ⟨⟨by omega, by omega⟩, ⟨by omega, by omega⟩⟩ (fun c1 => gd_cb ⟨⟨by omega, by omega⟩, ⟨by omega, by omega⟩⟩ (fun c2 => gd_cb ⟨⟨by omega, by omega⟩, ⟨by omega, by omega⟩⟩ (fun c3 => gd_cb ⟨⟨by omega, by omega⟩, ⟨by omega, by omega⟩⟩ (fun c4 => gd_cb ⟨⟨by omega, by omega⟩, ⟨by omega, by omega⟩⟩ (fun c5 => gd_cb ⟨⟨by omega, by omega⟩, ⟨by omega, by omega⟩⟩ (fun c6 => e 0 (by omega)) (fun c6 => e 1 (by omega))) (fun c5 => e 2 (by omega))) (fun c4 => e 3 (by omega))) (fun c3 => e 4 (by omega))) (fun c2 => e 5 (by omega))) (fun c1 => e 6 (by omega))
end
