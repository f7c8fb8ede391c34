/-! PLAN: the sign that is met -/
section
variable {T : gT} {ν : gN} {kd nm : Int}
theorem d_X12_signMet (h : tkR kd nm (ν (-6915) 0) (ν (-6916) 0)) : gd g_X12_signMet T ν (if kd = 10 ∨ kd = 11 ∨ (21 ≤ kd ∧ kd ≤ 30) then sg kd else 0) := by
  have hi := h.in
  have e : ∀ v : Int, (if kd = 10 ∨ kd = 11 ∨ (21 ≤ kd ∧ kd ≤ 30) then sg kd else 0) = v → gd (gret v : gM Int) T ν (if kd = 10 ∨ kd = 11 ∨ (21 ≤ kd ∧ kd ≤ 30) then sg kd else 0) := fun v e => by rw [e]; exact gd_ret
  have k3 := d_key (T := T) h (x := 3) (by decide)
  have k4 := d_key (T := T) h (x := 4) (by decide)
  rw [show 6 + pz 3 = 11 by decide] at k3
  rw [show 6 + pz 4 = 10 by decide] at k4
  have s1 := d_sign (T := T) h (x := 43) (k := 27) (by decide)
  have s2 := d_sign (T := T) h (x := 45) (k := 28) (by decide)
  have s3 := d_sign (T := T) h (x := 42) (k := 29) (by decide)
  have s4 := d_sign (T := T) h (x := 47) (k := 30) (by decide)
  have h4 : ν (-6915) 0 = 4 ↔ (21 ≤ kd ∧ kd ≤ 26) := by
    unfold tkR at h
    rcases h with g | g | g | g | g | g
    · constructor <;> intro hh <;> omega
    · constructor <;> intro hh <;> omega
    · constructor <;> intro hh <;> omega
    · constructor <;> intro hh <;> omega
    · constructor <;> intro hh <;> omega
    · constructor <;> intro hh <;> omega
  have hv4 : (21 ≤ kd ∧ kd ≤ 26) → ν (-6916) 0 = kd - 21 := fun hk => by
    unfold tkR at h
    rcases h with g | g | g | g | g | g
    · omega
    · omega
    · omega
    · omega
    · exact g.2.2
    · omega
  unfold g_X12_signMet
  refine gd_rd k3 ?_
  by_cases c3 : kd = 11
  · rw [if_pos c3]
    refine gd_cz (by decide) (fun g => absurd g (by decide)) (fun _ => e 3 ?_)
    rw [c3]; decide
  · rw [if_neg c3]
    refine gd_cz (by decide) (fun _ => gd_rd k4 ?_) (fun g => absurd rfl g)
    by_cases c4 : kd = 10
    · rw [if_pos c4]
      refine gd_cz (by decide) (fun g => absurd g (by decide)) (fun _ => e 4 ?_)
      rw [c4]; decide
    · rw [if_neg c4]
      refine gd_cz (by decide) (fun _ => gd_get (gd_cb ⟨⟨by omega, by omega⟩, ⟨by omega, by omega⟩⟩ (fun c5 => gd_rd s1 ?_) (fun c5 => gd_get (e _ ?_)))) (fun g => absurd rfl g)
      · have nc : ¬ (21 ≤ kd ∧ kd ≤ 26) := fun g => c5 (h4.mpr g)
        by_cases d1 : kd = 27
        · rw [if_pos d1]
          refine gd_cz (by decide) (fun g => absurd g (by decide)) (fun _ => e 11 ?_)
          rw [d1]; decide
        · rw [if_neg d1]
          refine gd_cz (by decide) (fun _ => gd_rd s2 ?_) (fun g => absurd rfl g)
          by_cases d2 : kd = 28
          · rw [if_pos d2]
            refine gd_cz (by decide) (fun g => absurd g (by decide)) (fun _ => e 12 ?_)
            rw [d2]; decide
          · rw [if_neg d2]
            refine gd_cz (by decide) (fun _ => gd_rd s3 ?_) (fun g => absurd rfl g)
            by_cases d3 : kd = 29
            · rw [if_pos d3]
              refine gd_cz (by decide) (fun g => absurd g (by decide)) (fun _ => e 13 ?_)
              rw [d3]; decide
            · rw [if_neg d3]
              refine gd_cz (by decide) (fun _ => gd_rd s4 ?_) (fun g => absurd rfl g)
              by_cases d4 : kd = 30
              · rw [if_pos d4]
                refine gd_cz (by decide) (fun g => absurd g (by decide)) (fun _ => e 14 ?_)
                rw [d4]; decide
              · rw [if_neg d4]
                refine gd_cz (by decide) (fun _ => e 0 ?_) (fun g => absurd rfl g)
                rw [if_neg (by omega)]
      · have hk : 21 ≤ kd ∧ kd ≤ 26 := h4.mp (by omega)
        rw [if_pos (by omega), hv4 hk]
        unfold sg
        rw [if_neg (by omega), if_neg (by omega), if_neg (by omega), if_neg (by omega)]
        omega
end
