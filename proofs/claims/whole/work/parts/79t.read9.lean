/-! PLAN: a not more -/
section
variable {T : gT} {ν : gN}
theorem s_notMore {W W' : Int → Int} {o : Nat} {r : Int} {L L0 : List Int} {Q : Int → gN → Prop} {rec : Unit → gM Int} {x1 : Int} (h : RN ν W o L0) (ho : o < 64) (hW : ∀ j : Nat, j < o → W' j = W j) (hw : W' o = 1009) (hL : L0 = r :: L) (hQ : ∀ ν' : gN, gfr [76, 77, 78, 85, -6934, -6922] ν ν' → lo3 ν ν' → RN ν' W' (o + 1) ((o : Int) :: L) → gv (rec ()) T ν' Q) : gv (g_X12_bind_58 rec x1 2 (-1)) T ν Q := by
  obtain ⟨h1, h2, ⟨B, hB⟩, h3⟩ := h
  rw [hL] at h2 hB
  have hlen := sn_len W 0 o
  rw [hB, List.length_append, List.length_cons] at hlen
  have e0 := h2.1
  rw [List.length_cons] at e0
  have hsk : sn W' 0 o = r :: L ++ B := by rw [sn_congr (W := W') (W' := W) o (fun i hi => by rw [Int.zero_add]; exact hW i hi)]; exact hB
  unfold g_X12_bind_58
  refine gv_call (s_X12_dropHeld (d := (L.length : Int) + 1) (by rw [e0]; omega) (by omega)) (fun v ν1 hv => ?_)
  obtain ⟨rfl, rfl⟩ := hv
  have p1 := stR_pop (τ' := gup ν (-6934) 0 ((L.length : Int) + 1 - 1)) h2 (by rw [gup_at]; omega) (gup_ne (by decide))
  have ev : ν 85 ((L.length : Int) + 1 - 1) = r := by
    have := p1.2
    rw [show (L.length : Int) + 1 - 1 = (L.length : Int) by omega]; exact this
  rw [ev]
  generalize ht : gup ν (-6934) 0 ((L.length : Int) + 1 - 1) = σ at p1
  have hf : gfr [-6934] ν σ := by rw [← ht]; exact (gfr.refl _ _).up (by decide)
  refine gv_call (s_X12_grown (o := (o : Int)) p1.1.1 (by omega) (by rw [hf _ (by decide)]; exact h1) (by omega)) (fun _ ν' hh => hQ ν' ((hf.mono (by decide)).trans hh.1) ?_ ?_)
  · refine (hf.lo3 (by decide)).trans (fun j hj => ⟨?_, ?_, ?_⟩)
    · rw [hh.2.2.2.1, if_neg (by omega)]
    · rw [hh.2.2.2.2.1, if_neg (by omega)]
    · rw [hh.2.2.2.2.2.1, if_neg (by omega)]
  obtain ⟨q1, q2, q3, q4, q5, q6, q7⟩ := hh
  have hs1 : sn W' 0 (o + 1) = (o : Int) :: L ++ B := by
    rw [sn_zero, show need (W' o) = 1 by unfold need; rw [if_neg (by omega), if_pos hw], hsk]; rfl
  refine ⟨by rw [q3]; omega, stR_push p1.1 q2 q7, ⟨B, hs1⟩, fun i hi => ?_⟩
  · by_cases e : i = o
    · subst e
      unfold nOK
      rw [q4, q5, q6, if_pos rfl, if_pos rfl, if_pos rfl, hsk]
      exact ⟨fun g => by omega, fun g => by omega, fun _ => ⟨rfl, rfl, rfl⟩, fun g => by omega⟩
    · refine nOK_congr (h3 i (by omega)) (fun j hj => hW j (by omega)) ?_ ?_ ?_
      · rw [q4, if_neg (by omega), hf 76 (by decide)]
      · rw [q5, if_neg (by omega), hf 77 (by decide)]
      · rw [q6, if_neg (by omega), hf 78 (by decide)]
end
