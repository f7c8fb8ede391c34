/-! PLAN: a node more -/
section
variable {T : gT} {ν : gN}
theorem s_leaf {W W' : Int → Int} {o : Nat} {a x : Int} {L : List Int} (h : RN ν W o L) (ho : o < 64) (hW : ∀ j : Nat, j < o → W' j = W j) (hl : (W' o < 1000 ∧ a = 0 ∧ x = W' o) ∨ ((1012 ≤ W' o ∧ W' o ≤ 1020) ∧ a = 1 ∧ x = W' o - 1012)) : gv (g_X12_grown a x 0) T ν (fun _ ν' => gfr [76, 77, 78, 85, -6934, -6922] ν ν' ∧ lo3 ν ν' ∧ RN ν' W' (o + 1) ((o : Int) :: L)) := by
  obtain ⟨h1, h2, ⟨B, hB⟩, h3⟩ := h
  have hlen := sn_len W 0 o
  rw [hB, List.length_append] at hlen
  refine (s_X12_grown h2.1 (by omega) h1 (by omega)).mono ?_
  intro _ ν' hh
  obtain ⟨q1, q2, q3, q4, q5, q6, q7⟩ := hh
  have hsk : sn W' 0 o = L ++ B := by rw [sn_congr (W := W') (W' := W) o (fun i hi => by rw [Int.zero_add]; exact hW i hi)]; exact hB
  have hs1 : sn W' 0 (o + 1) = (o : Int) :: L ++ B := by
    rw [sn_zero, show need (W' o) = 0 from if_pos (by omega), hsk]; rfl
  refine ⟨q1, fun j hj => ⟨by rw [q4, if_neg (by omega)], by rw [q5, if_neg (by omega)], by rw [q6, if_neg (by omega)]⟩, by rw [q3]; omega, stR_push h2 q2 q7, ⟨B, hs1⟩, fun i hi => ?_⟩
  · by_cases e : i = o
    · subst e
      unfold nOK
      rw [q4, q5, if_pos rfl, if_pos rfl]
      refine ⟨fun g => ?_, fun g => ?_, fun g => by omega, fun g => by omega⟩
      · omega
      · omega
    · refine nOK_congr (h3 i (by omega)) (fun j hj => hW j (by omega)) ?_ ?_ ?_
      · rw [q4, if_neg (by omega)]
      · rw [q5, if_neg (by omega)]
      · rw [q6, if_neg (by omega)]
end
