/-! PLAN: a sign more -/
section
variable {T : gT} {ν : gN}
theorem s_binary {W W' : Int → Int} {o : Nat} {k l r : Int} {L L0 : List Int} {Q : Int → gN → Prop} {rec : Unit → gM Int} {x1 : Int} (h : RN ν W o L0) (ho : o < 64) (hW : ∀ j : Nat, j < o → W' j = W j) (hk : k = 10 ∨ k = 11 ∨ (21 ≤ k ∧ k ≤ 30)) (hw : W' o = 1000 + k) (hL : L0 = r :: l :: L) (hQ : ∀ ν' : gN, gfr [76, 77, 78, 85, -6934, -6922] ν ν' → lo3 ν ν' → RN ν' W' (o + 1) ((o : Int) :: L) → gv (rec ()) T ν' Q) : gv (gbd g_X12_dropHeld (fun v55 => g_X12_bind_58 rec x1 (sg k) v55)) T ν Q := by
  obtain ⟨h1, h2, ⟨B, hB⟩, h3⟩ := h
  rw [hL] at h2 hB
  have hlen := sn_len W 0 o
  rw [hB, List.length_append, List.length_cons, List.length_cons] at hlen
  have e0 := h2.1
  rw [List.length_cons, List.length_cons] at e0
  have hsk : sn W' 0 o = r :: l :: L ++ B := by rw [sn_congr (W := W') (W' := W) o (fun i hi => by rw [Int.zero_add]; exact hW i hi)]; exact hB
  refine gv_call (s_X12_dropHeld (d := (L.length : Int) + 2) (by rw [e0]; omega) (by omega)) (fun v ν1 hv => ?_)
  obtain ⟨rfl, rfl⟩ := hv
  have p1 := stR_pop (τ' := gup ν (-6934) 0 ((L.length : Int) + 2 - 1)) h2 (by rw [gup_at, List.length_cons]; omega) (gup_ne (by decide))
  have ev : ν 85 ((L.length : Int) + 2 - 1) = r := by
    have := p1.2
    rw [List.length_cons] at this
    rw [show (L.length : Int) + 2 - 1 = ((L.length + 1 : Nat) : Int) by omega]; exact this
  rw [ev]
  unfold g_X12_bind_58
  refine gv_call (s_X12_dropHeld (d := (L.length : Int) + 1) (by rw [gup_at]; omega) (by omega)) (fun v2 ν2 hv2 => ?_)
  obtain ⟨rfl, rfl⟩ := hv2
  have p2 := stR_pop (τ' := gup (gup ν (-6934) 0 ((L.length : Int) + 2 - 1)) (-6934) 0 ((L.length : Int) + 1 - 1)) p1.1 (by rw [gup_at]; omega) (gup_ne (by decide))
  have ev2 : gup ν (-6934) 0 ((L.length : Int) + 2 - 1) 85 ((L.length : Int) + 1 - 1) = l := by
    have := p2.2
    rw [show (L.length : Int) + 1 - 1 = (L.length : Int) by omega]; exact this
  rw [ev2]
  generalize ht : gup (gup ν (-6934) 0 ((L.length : Int) + 2 - 1)) (-6934) 0 ((L.length : Int) + 1 - 1) = σ at p2
  have hf : gfr [-6934] ν σ := by rw [← ht]; exact ((gfr.refl _ _).up (by decide)).up (by decide)
  refine gv_call (s_X12_grown (o := (o : Int)) p2.1.1 (by omega) (by rw [hf _ (by decide)]; exact h1) (by omega)) (fun _ ν' hh => hQ ν' ((hf.mono (by decide)).trans hh.1) ?_ ?_)
  · refine (hf.lo3 (by decide)).trans (fun j hj => ⟨?_, ?_, ?_⟩)
    · rw [hh.2.2.2.1, if_neg (by omega)]
    · rw [hh.2.2.2.2.1, if_neg (by omega)]
    · rw [hh.2.2.2.2.2.1, if_neg (by omega)]
  obtain ⟨q1, q2, q3, q4, q5, q6, q7⟩ := hh
  have hs1 : sn W' 0 (o + 1) = (o : Int) :: L ++ B := by
    rw [sn_zero, show need (W' o) = 2 by unfold need; rw [if_neg (by omega), if_neg (by omega)], hsk]; rfl
  refine ⟨by rw [q3]; omega, stR_push p2.1 q2 q7, ⟨B, hs1⟩, fun i hi => ?_⟩
  · by_cases e : i = o
    · subst e
      unfold nOK
      rw [q4, q5, q6, if_pos rfl, if_pos rfl, if_pos rfl, hsk]
      refine ⟨fun g => by omega, fun g => by omega, fun g => by omega, fun _ => ⟨by rw [hw, show 1000 + k - 1000 = k by omega], rfl, rfl⟩⟩
    · refine nOK_congr (h3 i (by omega)) (fun j hj => hW j (by omega)) ?_ ?_ ?_
      · rw [q4, if_neg (by omega), hf 76 (by decide)]
      · rw [q5, if_neg (by omega), hf 77 (by decide)]
      · rw [q6, if_neg (by omega), hf 78 (by decide)]
end
