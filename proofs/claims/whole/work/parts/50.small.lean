/-! THE SMALL CALLS -/
section
variable {α : Type} {T : gT} {ν : gN}
theorem gd_ite {c : Prop} [Decidable c] {k1 k2 : gM α} {a b : α} (h1 : gd k1 T ν a) (h2 : gd k2 T ν b) : gd (git c k1 k2) T ν (if c then a else b) := by
  by_cases hc : c
  · rw [if_pos hc]; exact gd_it (fun _ => h1) (fun h => absurd hc h)
  · rw [if_neg hc]; exact gd_it (fun h => absurd h hc) (fun _ => h2)
theorem d_X8_hasKind {x : Int} (h : -2147483648 ≤ x ∧ x ≤ 2147483647) : gd (g_X8_hasKind x) T ν (if 0 ≤ x ∧ x < 3 then 1 else 0) := by
  unfold g_X8_hasKind
  refine gd_cz h (fun hc => ?_) (fun hc => gd_cb ⟨h, by decide⟩ (fun hc2 => ?_) (fun hc2 => ?_))
  · rw [if_neg (by omega)]; exact gd_ret
  · rw [if_neg (by omega)]; exact gd_ret
  · rw [if_pos (by omega)]; exact gd_ret
theorem d_X12_isKind {x : Int} (h : -2147483648 ≤ x ∧ x ≤ 2147483647) : gd (g_X12_isKind x) T ν (if 0 ≤ x ∧ x < 3 then 1 else 0) := by
  unfold g_X12_isKind
  refine gd_cz h (fun hc => ?_) (fun hc => gd_cb ⟨h, by decide⟩ (fun hc2 => ?_) (fun hc2 => ?_))
  · rw [if_neg (by omega)]; exact gd_ret
  · rw [if_neg (by omega)]; exact gd_ret
  · rw [if_pos (by omega)]; exact gd_ret
theorem d_X8_hasStep {x : Int} (h : -2147483648 ≤ x ∧ x ≤ 2147483647) (ht : 1 ≤ ν (-200) 0 ∧ ν (-200) 0 ≤ 40) : gd (g_X8_hasStep x) T ν (if 1 ≤ x ∧ x ≤ ν (-200) 0 then 1 else 0) := by
  unfold g_X8_hasStep
  refine gd_cb ⟨h, by decide⟩ (fun hc => ?_) (fun hc => gd_get (gd_cb ⟨⟨by omega, by omega⟩, ⟨by omega, by omega⟩⟩ (fun hc2 => ?_) (fun hc2 => ?_)))
  · rw [if_neg (by omega)]; exact gd_ret
  · rw [if_neg (by omega)]; exact gd_ret
  · rw [if_pos (by omega)]; exact gd_ret
theorem d_X12_isStep {x : Int} (h : -2147483648 ≤ x ∧ x ≤ 2147483647) (ht : 1 ≤ ν (-6903) 0 ∧ ν (-6903) 0 ≤ 40) : gd (g_X12_isStep x) T ν (if 1 ≤ x ∧ x ≤ ν (-6903) 0 then 1 else 0) := by
  unfold g_X12_isStep
  refine gd_cb ⟨h, by decide⟩ (fun hc => ?_) (fun hc => gd_get (gd_cb ⟨⟨by omega, by omega⟩, ⟨by omega, by omega⟩⟩ (fun hc2 => ?_) (fun hc2 => ?_)))
  · rw [if_neg (by omega)]; exact gd_ret
  · rw [if_neg (by omega)]; exact gd_ret
  · rw [if_pos (by omega)]; exact gd_ret
theorem d_X8_hasStrength {x : Int} (h : -2147483648 ≤ x ∧ x ≤ 2147483647) (ht : 1 ≤ ν (-200) 0 ∧ ν (-200) 0 ≤ 40) : gd (g_X8_hasStrength x) T ν (if 0 ≤ x ∧ x ≤ ν (-200) 0 then 1 else 0) := by
  unfold g_X8_hasStrength
  refine gd_cz h (fun hc => ?_) (fun hc => gd_get (gd_cb ⟨⟨by omega, by omega⟩, ⟨by omega, by omega⟩⟩ (fun hc2 => ?_) (fun hc2 => ?_)))
  · rw [if_neg (by omega)]; exact gd_ret
  · rw [if_neg (by omega)]; exact gd_ret
  · rw [if_pos (by omega)]; exact gd_ret
theorem d_X12_isStrength {x : Int} (h : -2147483648 ≤ x ∧ x ≤ 2147483647) (ht : 1 ≤ ν (-6903) 0 ∧ ν (-6903) 0 ≤ 40) : gd (g_X12_isStrength x) T ν (if 0 ≤ x ∧ x ≤ ν (-6903) 0 then 1 else 0) := by
  unfold g_X12_isStrength
  refine gd_cz h (fun hc => ?_) (fun hc => gd_get (gd_cb ⟨⟨by omega, by omega⟩, ⟨by omega, by omega⟩⟩ (fun hc2 => ?_) (fun hc2 => ?_)))
  · rw [if_neg (by omega)]; exact gd_ret
  · rw [if_neg (by omega)]; exact gd_ret
  · rw [if_pos (by omega)]; exact gd_ret
/-- a test's answer, 1 or 0, and what is done by it -/
theorem gv_tz {m : gM Int} {c : Prop} [Decidable c] {f : Int → gM α} {k1 k2 : gM α} {Q : α → gN → Prop} (h : gd m T ν (if c then 1 else 0)) (h1 : c → gv (f 1) T ν Q) (h2 : ¬ c → gv (f 0) T ν Q) : gv (gbd m f) T ν Q := by
  by_cases hc : c
  · rw [if_pos hc] at h; exact gv_rd h (h1 hc)
  · rw [if_neg hc] at h; exact gv_rd h (h2 hc)
theorem gv_c1 {k1 k2 : gM α} {Q : α → gN → Prop} (h : gv k1 T ν Q) : gv (gcz 1 (¬ ((1 : Int) = 0)) k1 k2) T ν Q := gv_cz (by decide) (fun _ => h) (fun h => absurd (by decide) h)
theorem gv_c0 {k1 k2 : gM α} {Q : α → gN → Prop} (h : gv k2 T ν Q) : gv (gcz 0 (¬ ((0 : Int) = 0)) k1 k2) T ν Q := gv_cz (by decide) (fun h => absurd rfl h) (fun _ => h)
theorem gv_e1 {k1 k2 : gM α} {Q : α → gN → Prop} (h : gv k2 T ν Q) : gv (gcz 1 ((1 : Int) = 0) k1 k2) T ν Q := gv_cz (by decide) (fun h => absurd h (by decide)) (fun _ => h)
theorem gv_e0 {k1 k2 : gM α} {Q : α → gN → Prop} (h : gv k1 T ν Q) : gv (gcz 0 ((0 : Int) = 0) k1 k2) T ν Q := gv_cz (by decide) (fun _ => h) (fun h => absurd rfl h)
/-- stair -/
theorem s_J7_fill_o6 (v : Int) : gv (g_J7_fill_o6 v) T ν (fun _ ν' => gfr [6] ν ν' ∧ ∀ k : Int, 0 ≤ k → k < 41 → ν' 6 k = v) := by
  unfold g_J7_fill_o6 g_J7_fill_5_o6
  refine gv_fx (fun (x : Int) τ => ∃ j : Nat, x = j ∧ j ≤ 41 ∧ gfr [6] ν τ ∧ ∀ k : Int, 0 ≤ k → k < j → τ 6 k = v) (fun x _ => 41 - x.toNat) ⟨0, rfl, by omega, gfr.refl _ _, fun k h1 h2 => by omega⟩ (by omega) ?_
  intro rec x τ hI hrec
  obtain ⟨j, rfl, hj, hf, hz⟩ := hI
  unfold gB_J7_fill_5_o6
  refine gv_cb ⟨⟨by omega, by omega⟩, ⟨by omega, by omega⟩⟩ (fun hc => gv_ret ⟨hf, fun k h1 h2 => hz k h1 (by omega)⟩) (fun hc => ?_)
  refine gv_as ⟨by omega, by omega⟩ (gv_let ?_)
  refine hrec _ _ ⟨j + 1, by omega, by omega, hf.up (by decide), fun k h1 h2 => ?_⟩ (by omega)
  rw [gup_same]
  by_cases e : k = j
  · rw [if_pos e]
  · rw [if_neg e]; exact hz k h1 (by omega)
theorem s_X11_stair {n : Int} (hn : -2147483648 ≤ n ∧ n ≤ 2147483647) : gv (g_X11_stair n) T ν (fun r ν' => if 1 ≤ n ∧ n ≤ 40 then r = 1 ∧ gfr [-200, 6, -207, -5300, -114] ν ν' ∧ ν' (-200) 0 = n ∧ ν' (-207) 0 = ν (-207) 0 + 1 ∧ ν' (-5300) 0 = 0 ∧ ν' (-114) 0 = 0 ∧ (∀ k : Int, 0 ≤ k → k < 41 → ν' 6 k = 1) else r = 0 ∧ ν' = ν) := by
  unfold g_X11_stair
  refine gv_cb ⟨hn, by decide⟩ (fun c => gv_ret (by rw [if_neg (by omega)]; exact ⟨rfl, rfl⟩)) (fun c1 => ?_)
  refine gv_cb ⟨hn, by decide⟩ (fun c2 => ?_) (fun c => gv_ret (by rw [if_neg (by omega)]; exact ⟨rfl, rfl⟩))
  simp only [if_pos (show 1 ≤ n ∧ n ≤ 40 by omega)]
  have hr : gv (g_X8_renew n) T ν (fun _ ν' => gfr [-200, 6, -207] ν ν' ∧ ν' (-200) 0 = n ∧ ν' (-207) 0 = ν (-207) 0 + 1 ∧ (∀ k : Int, 0 ≤ k → k < 41 → ν' 6 k = 1)) := by
    unfold g_X8_renew
    refine gv_put (gv_call (s_J7_fill_o6 1) (fun _ ν1 h1 => gv_get (gv_put (gv_ret ?_))))
    have e1 := h1.1 (-207) (by decide)
    have e2 := h1.1 (-200) (by decide)
    refine ⟨fun b hb => ?_, ?_, ?_, fun k k1 k2 => ?_⟩
    · rw [gup_ne (fun e => hb (by rw [e]; decide)), h1.1 b (fun h => hb (by revert h; simp only [List.mem_cons, List.not_mem_nil, or_false]; intro h; rw [h]; decide)), gup_ne (fun e => hb (by rw [e]; decide))]
    · rw [gup_ne (by decide), e2]; exact gup_at _ _ _ _
    · rw [gup_at, e1, gup_ne (by decide)]
    · rw [gup_ne (by decide)]; exact h1.2 k k1 k2
  refine gv_call hr (fun _ ν1 h1 => ?_)
  unfold g_X3_clear
  refine gv_bd (gv_put (gv_ret (gv_put (gv_ret ⟨rfl, ?_, ?_, ?_, ?_, ?_, ?_⟩))))
  · exact ((h1.1.mono (by decide)).up (by decide)).up (by decide)
  · rw [gup_ne (by decide), gup_ne (by decide)]; exact h1.2.1
  · rw [gup_ne (by decide), gup_ne (by decide)]; exact h1.2.2.1
  · rw [gup_ne (by decide)]; exact gup_at _ _ _ _
  · exact gup_at _ _ _ _
  · intro k k1 k2
    rw [gup_ne (by decide), gup_ne (by decide)]; exact h1.2.2.2 k k1 k2
theorem s_X12_stair {n : Int} (hn : -2147483648 ≤ n ∧ n ≤ 2147483647) : gv (g_X12_stair n) T ν (fun r ν' => gfr [-6902, -6903, 74, -6957, -6963] ν ν' ∧ if 1 ≤ n ∧ n ≤ 40 then r = 1 ∧ ν' (-6903) 0 = n ∧ ν' (-6957) 0 = 0 ∧ ν' (-6963) 0 = 0 ∧ (∀ k : Int, 0 ≤ k → k < 41 → ν' 74 k = 1) else r = 0 ∧ gfr [-6902] ν ν') := by
  unfold g_X12_stair
  refine gv_put (gv_tz (k1 := gret 0) (k2 := gret 0) (d_X12_isIn hn (by decide) (by decide)) (fun c => gv_c1 (gv_put ?_)) (fun c => gv_c0 (gv_ret ⟨(gfr.refl _ _).up (by decide), ?_⟩)))
  · simp only [if_pos c]
    unfold g_X12_stair_24
    refine gv_fx (fun (x : Int) τ => ∃ j : Nat, x = j ∧ j ≤ 41 ∧ gfr [-6902, -6903, 74, -6957, -6963] ν τ ∧ τ (-6903) 0 = n ∧ ∀ k : Int, 0 ≤ k → k < j → τ 74 k = 1) (fun x _ => 41 - x.toNat) ⟨0, rfl, by omega, ((gfr.refl _ _).up (by decide)).up (by decide), gup_at _ _ _ _, fun k h1 h2 => by omega⟩ (by omega) ?_
    intro rec x τ hI hrec
    obtain ⟨j, rfl, hj, hf, ht, hz⟩ := hI
    unfold gB_X12_stair_24
    refine gv_cb ⟨⟨by omega, by omega⟩, ⟨by omega, by omega⟩⟩ (fun hc => gv_put (gv_put (gv_ret ⟨(hf.up (by decide)).up (by decide), rfl, ?_, ?_, ?_, ?_⟩))) (fun hc => ?_)
    · rw [gup_ne (by decide), gup_ne (by decide)]; exact ht
    · rw [gup_ne (by decide)]; exact gup_at _ _ _ _
    · exact gup_at _ _ _ _
    · intro k k1 k2
      rw [gup_ne (by decide), gup_ne (by decide)]; exact hz k k1 (by omega)
    · refine gv_as ⟨by omega, by omega⟩ (gv_let ?_)
      refine hrec _ _ ⟨j + 1, by omega, by omega, hf.up (by decide), by rw [gup_ne (by decide)]; exact ht, fun k h1 h2 => ?_⟩ (by omega)
      rw [gup_same]
      by_cases e : k = j
      · rw [if_pos e]
      · rw [if_neg e]; exact hz k h1 (by omega)
  · rw [if_neg c]; exact ⟨rfl, (gfr.refl _ _).up (by decide)⟩
/-- kind -/
def okKind (k d n p : Int) : Prop := (0 ≤ k ∧ k < 3) ∧ (-9 ≤ d ∧ d ≤ 9) ∧ (0 ≤ n ∧ n ≤ 4) ∧ (0 ≤ p ∧ p ≤ 99)
theorem s_X11_kind {k d n p : Int} (hk : -2147483648 ≤ k ∧ k ≤ 2147483647) (hd : -2147483648 ≤ d ∧ d ≤ 2147483647) (hn : -2147483648 ≤ n ∧ n ≤ 2147483647) (hp : -2147483648 ≤ p ∧ p ≤ 2147483647) : gv (g_X11_kind k d n p) T ν (fun r ν' => (okKind k d n p ∧ r = 1 ∧ ν' = gup (gup (gup (gup (gup ν 3 k d) 4 k n) 5 k p) (-207) 0 (ν (-207) 0 + 1)) (-114) 0 0) ∨ (¬ okKind k d n p ∧ r = 0 ∧ ν' = ν)) := by
  unfold g_X11_kind
  refine gv_tz (k1 := gret 0) (k2 := gret 0) (d_X8_hasKind hk) (fun c1 => gv_e1 ?_) (fun c => gv_e0 (gv_ret (Or.inr ⟨fun h => c h.1, rfl, rfl⟩)))
  refine gv_cb ⟨hd, by decide⟩ (fun c => gv_ret (Or.inr ⟨fun h => by have := h.2.1; omega, rfl, rfl⟩)) (fun c2 => ?_)
  refine gv_cb ⟨hd, by decide⟩ (fun c => gv_ret (Or.inr ⟨fun h => by have := h.2.1; omega, rfl, rfl⟩)) (fun c3 => ?_)
  refine gv_tz (k1 := gret 0) (k2 := gret 0) (d_X11_isWithin hn (by decide)) (fun c4 => gv_e1 ?_) (fun c => gv_e0 (gv_ret (Or.inr ⟨fun h => c h.2.2.1, rfl, rfl⟩)))
  refine gv_tz (k1 := gret 0) (k2 := gret 0) (d_X11_isWithin hp (by decide)) (fun c5 => gv_c1 ?_) (fun c => gv_c0 (gv_ret (Or.inr ⟨fun h => c h.2.2.2, rfl, rfl⟩)))
  unfold g_X8_setKind
  refine gv_bd (gv_as ⟨by omega, by omega⟩ (gv_as ⟨by omega, by omega⟩ (gv_as ⟨by omega, by omega⟩ (gv_get (gv_put (gv_ret (gv_put (gv_ret (Or.inl ⟨⟨c1, by omega, c4, c5⟩, rfl, ?_⟩)))))))))
  rw [gup_ne (by decide), gup_ne (by decide), gup_ne (by decide)]
theorem s_X12_kind {k d n p : Int} (hk : -2147483648 ≤ k ∧ k ≤ 2147483647) (hd : -2147483648 ≤ d ∧ d ≤ 2147483647) (hn : -2147483648 ≤ n ∧ n ≤ 2147483647) (hp : -2147483648 ≤ p ∧ p ≤ 2147483647) : gv (g_X12_kind k d n p) T ν (fun r ν' => (okKind k d n p ∧ r = 1 ∧ ν' = gup (gup (gup (gup (gup ν (-6902) 0 0) 71 k d) 72 k n) 73 k p) (-6963) 0 0) ∨ (¬ okKind k d n p ∧ r = 0 ∧ ν' = gup ν (-6902) 0 0)) := by
  unfold g_X12_kind
  refine gv_put ?_
  refine gv_tz (k1 := gret 0) (k2 := gret 0) (d_X12_isKind hk) (fun c1 => gv_e1 ?_) (fun c => gv_e0 (gv_ret (Or.inr ⟨fun h => c h.1, rfl, rfl⟩)))
  refine gv_tz (k1 := gret 0) (k2 := gret 0) (d_X12_isIn hd (by decide) (by decide)) (fun c2 => gv_e1 ?_) (fun c => gv_e0 (gv_ret (Or.inr ⟨fun h => c h.2.1, rfl, rfl⟩)))
  refine gv_tz (k1 := gret 0) (k2 := gret 0) (d_X12_isIn hn (by decide) (by decide)) (fun c3 => gv_e1 ?_) (fun c => gv_e0 (gv_ret (Or.inr ⟨fun h => c h.2.2.1, rfl, rfl⟩)))
  refine gv_tz (k1 := gret 0) (k2 := gret 0) (d_X12_isIn hp (by decide) (by decide)) (fun c4 => gv_c1 ?_) (fun c => gv_c0 (gv_ret (Or.inr ⟨fun h => c h.2.2.2, rfl, rfl⟩)))
  exact gv_as ⟨by omega, by omega⟩ (gv_as ⟨by omega, by omega⟩ (gv_as ⟨by omega, by omega⟩ (gv_put (gv_ret (Or.inl ⟨⟨c1, c2, c3, c4⟩, rfl, rfl⟩)))))
/-- cost -/
def okCost (f c : Int) : Prop := (0 ≤ f ∧ f ≤ 99) ∧ (0 ≤ c ∧ c ≤ 9)
theorem s_X11_cost {f c : Int} (hf : -2147483648 ≤ f ∧ f ≤ 2147483647) (hc : -2147483648 ≤ c ∧ c ≤ 2147483647) : gv (g_X11_cost f c) T ν (fun r ν' => (okCost f c ∧ r = 1 ∧ ν' = gup (gup (gup ν (-204) 0 f) (-205) 0 c) (-207) 0 (ν (-207) 0 + 1)) ∨ (¬ okCost f c ∧ r = 0 ∧ ν' = ν)) := by
  unfold g_X11_cost
  refine gv_tz (k1 := gret 0) (k2 := gret 0) (d_X11_isWithin hf (by decide)) (fun c1 => gv_e1 ?_) (fun c => gv_e0 (gv_ret (Or.inr ⟨fun h => c h.1, rfl, rfl⟩)))
  refine gv_tz (k1 := gret 0) (k2 := gret 0) (d_X11_isWithin hc (by decide)) (fun c2 => gv_c1 ?_) (fun c => gv_c0 (gv_ret (Or.inr ⟨fun h => c h.2, rfl, rfl⟩)))
  unfold g_X8_setCosts
  refine gv_bd (gv_put (gv_put (gv_get (gv_put (gv_ret (gv_ret (Or.inl ⟨⟨c1, c2⟩, rfl, ?_⟩)))))))
  rw [gup_ne (by decide), gup_ne (by decide)]
theorem s_X12_cost {f c : Int} (hf : -2147483648 ≤ f ∧ f ≤ 2147483647) (hc : -2147483648 ≤ c ∧ c ≤ 2147483647) : gv (g_X12_cost f c) T ν (fun r ν' => (okCost f c ∧ r = 1 ∧ ν' = gup (gup (gup ν (-6902) 0 0) (-6908) 0 f) (-6909) 0 c) ∨ (¬ okCost f c ∧ r = 0 ∧ ν' = gup ν (-6902) 0 0)) := by
  unfold g_X12_cost
  refine gv_put ?_
  refine gv_tz (k1 := gret 0) (k2 := gret 0) (d_X12_isIn hf (by decide) (by decide)) (fun c1 => gv_e1 ?_) (fun c => gv_e0 (gv_ret (Or.inr ⟨fun h => c h.1, rfl, rfl⟩)))
  refine gv_tz (k1 := gret 0) (k2 := gret 0) (d_X12_isIn hc (by decide) (by decide)) (fun c2 => gv_c1 ?_) (fun c => gv_c0 (gv_ret (Or.inr ⟨fun h => c h.2, rfl, rfl⟩)))
  exact gv_put (gv_put (gv_ret (Or.inl ⟨⟨c1, c2⟩, rfl, rfl⟩)))
/-- weight -/
theorem s_X11_weight {t w : Int} (ht : -2147483648 ≤ t ∧ t ≤ 2147483647) (hw : -2147483648 ≤ w ∧ w ≤ 2147483647) (hT : 1 ≤ ν (-200) 0 ∧ ν (-200) 0 ≤ 40) : gv (g_X11_weight t w) T ν (fun r ν' => (((0 ≤ t ∧ t ≤ ν (-200) 0) ∧ (0 ≤ w ∧ w ≤ 99)) ∧ r = 1 ∧ ν' = gup (gup ν 6 t w) (-207) 0 (ν (-207) 0 + 1)) ∨ (¬ ((0 ≤ t ∧ t ≤ ν (-200) 0) ∧ (0 ≤ w ∧ w ≤ 99)) ∧ r = 0 ∧ ν' = ν)) := by
  unfold g_X11_weight
  refine gv_tz (k1 := gret 0) (k2 := gret 0) (d_X8_hasStrength ht hT) (fun c1 => gv_e1 ?_) (fun c => gv_e0 (gv_ret (Or.inr ⟨fun h => c h.1, rfl, rfl⟩)))
  refine gv_tz (k1 := gret 0) (k2 := gret 0) (d_X11_isWithin hw (by decide)) (fun c2 => gv_c1 ?_) (fun c => gv_c0 (gv_ret (Or.inr ⟨fun h => c h.2, rfl, rfl⟩)))
  unfold g_X8_setWeight
  refine gv_bd (gv_as ⟨by omega, by omega⟩ (gv_get (gv_put (gv_ret (gv_ret (Or.inl ⟨⟨c1, c2⟩, rfl, ?_⟩))))))
  rw [gup_ne (by decide)]
theorem s_X12_weight {t w : Int} (ht : -2147483648 ≤ t ∧ t ≤ 2147483647) (hw : -2147483648 ≤ w ∧ w ≤ 2147483647) (hT : 1 ≤ ν (-6903) 0 ∧ ν (-6903) 0 ≤ 40) : gv (g_X12_weight t w) T ν (fun r ν' => (((0 ≤ t ∧ t ≤ ν (-6903) 0) ∧ (0 ≤ w ∧ w ≤ 99)) ∧ r = 1 ∧ ν' = gup (gup ν (-6902) 0 0) 74 t w) ∨ (¬ ((0 ≤ t ∧ t ≤ ν (-6903) 0) ∧ (0 ≤ w ∧ w ≤ 99)) ∧ r = 0 ∧ ν' = gup ν (-6902) 0 0)) := by
  unfold g_X12_weight
  refine gv_put ?_
  have e : gup ν (-6902) 0 0 (-6903) = ν (-6903) := gup_ne (by decide)
  have hd := d_X12_isStrength (T := T) (ν := gup ν (-6902) 0 0) ht (by rw [e]; exact hT)
  rw [e] at hd
  refine gv_tz (k1 := gret 0) (k2 := gret 0) hd (fun c1 => gv_e1 ?_) (fun c => gv_e0 (gv_ret (Or.inr ⟨fun h => c h.1, rfl, rfl⟩)))
  refine gv_tz (k1 := gret 0) (k2 := gret 0) (d_X12_isIn hw (by decide) (by decide)) (fun c2 => gv_c1 ?_) (fun c => gv_c0 (gv_ret (Or.inr ⟨fun h => c h.2, rfl, rfl⟩)))
  exact gv_as ⟨by omega, by omega⟩ (gv_ret (Or.inl ⟨⟨c1, c2⟩, rfl, rfl⟩))
/-- likely -/
theorem d_X11_likely {t : Int} (ht : -2147483648 ≤ t ∧ t ≤ 2147483647) (hT : 1 ≤ ν (-200) 0 ∧ ν (-200) 0 ≤ 40) : gv (g_X11_likely t) T ν (fun r ν' => r = (if 0 ≤ t ∧ t ≤ ν (-200) 0 then ν 6 t else -1) ∧ ν' = ν) := by
  unfold g_X11_likely
  refine gv_tz (k1 := gret 0) (k2 := gret 0) (d_X8_hasStrength ht hT) (fun c1 => gv_e1 (gv_al ⟨by omega, by omega⟩ (gv_ret ?_))) (fun c => gv_e0 (gv_ret ?_))
  · rw [if_pos c1]; exact ⟨rfl, rfl⟩
  · rw [if_neg c]; exact ⟨rfl, rfl⟩
theorem s_X12_likely {t : Int} (ht : -2147483648 ≤ t ∧ t ≤ 2147483647) (hT : 1 ≤ ν (-6903) 0 ∧ ν (-6903) 0 ≤ 40) : gv (g_X12_likely t) T ν (fun r ν' => r = (if 0 ≤ t ∧ t ≤ ν (-6903) 0 then ν 74 t else -1) ∧ ν' = gup ν (-6902) 0 0) := by
  unfold g_X12_likely
  refine gv_put ?_
  have e : gup ν (-6902) 0 0 (-6903) = ν (-6903) := gup_ne (by decide)
  have hd := d_X12_isStrength (T := T) (ν := gup ν (-6902) 0 0) ht (by rw [e]; exact hT)
  rw [e] at hd
  refine gv_tz (k1 := gret 0) (k2 := gret 0) hd (fun c1 => gv_e1 (gv_al ⟨by omega, by omega⟩ (gv_ret ?_))) (fun c => gv_e0 (gv_ret ?_))
  · rw [if_pos c1, gup_ne (by decide)]; exact ⟨rfl, rfl⟩
  · rw [if_neg c]; exact ⟨rfl, rfl⟩
end
