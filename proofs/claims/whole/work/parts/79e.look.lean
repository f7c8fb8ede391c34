/-! LOOK -/
section
variable {T : gT} {ν : gN}
theorem gw_xc {α : Type} {k : gM α} {Q : α → gT → gN → Prop} (h1 : T.1 + 1 ≤ hf_cc) (h2 : gsl T + 6 ≤ hf_cs) (h : gw k (gnT T 99 6) (gnN T ν) Q) : gw (gxc k) T ν Q := by
  obtain ⟨r, T', ν', e, hq⟩ := h
  refine ⟨r, T', ν', ?_, hq⟩
  show (if T.1 + 1 ≤ hf_cc ∧ gsl T + 6 ≤ hf_cs then k (gnT T 99 6, gnN T ν) else none) = _
  rw [if_pos ⟨h1, h2⟩]; exact e
theorem gw_ck {α : Type} {k : gM α} {Q : α → gT → gN → Prop} {c : Prop} [Decidable c] (hc : c) (h : gw k T ν Q) : gw (gck c k) T ν Q := by
  obtain ⟨r, T', ν', e, hq⟩ := h
  refine ⟨r, T', ν', ?_, hq⟩
  show (if c then k (T, ν) else none) = _
  rw [if_pos hc]; exact e
/-- what a look leaves -/
def lkQ (T : gT) (ν : gN) (r : Int) (T1 : gT) (v : Int) (ν2 : gN) : Prop := ν2 (-6902) 0 = r ∧ (0 ≤ r ∧ r ≤ 2) ∧ (r = 0 → ν2 104 0 = v ∧ (-9 ≤ v ∧ v ≤ 99)) ∧ gext T T1 ∧ T1.1 ≤ T.1 + 1 ∧ gsl T1 ≤ gsl T + 6 ∧ ∀ b : Int, b ≤ T.1 → b ∉ ([104, -6902] : List Int) → ν2 b = ν b
theorem c_look {k w : Int} (a1 : -2147483648 ≤ k ∧ k ≤ 2147483647) (a2 : -2147483648 ≤ w ∧ w ≤ 2147483647) (hs : iSt ν) (h104 : 104 ≤ T.1) (hcc : T.1 + 1 ≤ hf_cc) (hcs : gsl T + 6 ≤ hf_cs) : gw (g_L_look k w) T ν (fun r T1 ν1 => gv (g_X12_look k w) T1 ν1 (fun v ν2 => lkQ T ν r T1 v ν2)) := by
  have hbad : ∀ c : Int, (c = 1 ∨ c = 2) → ∀ b : Int, b ≤ T.1 → b ∉ ([104, -6902] : List Int) → gup (gup (gnN T ν) (-6902) 0 0) (-6902) 0 c b = ν b := fun c _ b hb hn => by
    simp only [List.mem_cons, List.not_mem_nil, or_false, not_or] at hn
    rw [gup_ne hn.2, gup_ne hn.2]
    funext j
    show (if b = ((T.1 + 1 : Nat) : Int) then 0 else ν b j) = ν b j
    rw [if_neg (by omega)]
  have hgood : ∀ a a' : Int, (0 ≤ k ∧ k < 3) → ν a k = ν a' k → (-9 ≤ ν a k ∧ ν a k ≤ 99) → a ≠ 104 → a' ≠ 104 → a' ≠ -6902 → gw (g_L_look1 a k) T ν (fun r T1 ν1 => r = 0 ∧ T1 = T ∧ ν1 = gup ν 104 0 (ν a k)) := fun a a' hk e hin _ _ _ => by
    unfold g_L_look1
    exact gw_al hk (gw_ck ⟨by omega, by omega⟩ (gw_as (by decide) (gw_ret ⟨rfl, rfl, rfl⟩)))
  have hfr : ∀ v : Int, ∀ b : Int, b ≤ T.1 → b ∉ ([104, -6902] : List Int) → gup (gup ν 104 0 v) (-6902) 0 0 b = ν b := fun v b hb hn => by
    simp only [List.mem_cons, List.not_mem_nil, or_false, not_or] at hn
    rw [gup_ne hn.2, gup_ne hn.1]
  unfold g_L_look
  refine gw_ck ⟨a1, a2⟩ (gw_it (fun hk => ?_) (fun hk => gw_xc hcc hcs (gw_ret ?_)))
  · have h1 := hs.2.1 k hk.1 hk.2
    have h2 := hs.2.2.2.2.2.2.1 k hk.1 hk.2
    refine gw_it (fun c0 => ?_) (fun c0 => gw_it (fun c1 => ?_) (fun c1 => gw_it (fun c2 => ?_) (fun c2 => gw_xc hcc hcs (gw_ret ?_))))
    · refine (hgood 3 71 hk h2.1.symm (by omega) (by decide) (by decide) (by decide)).mono (fun r T1 ν1 hh => ?_)
      obtain ⟨rfl, rfl, rfl⟩ := hh
      unfold g_X12_look
      refine gv_put (gv_tz (k1 := gret 0) (k2 := gret 0) (d_X12_isKind a1) (fun _ => gv_c1 (gv_ck a2 (gv_it (fun _ => gv_al hk (gv_ret ?_)) (fun h => absurd c0 h)))) (fun h => absurd hk h))
      refine ⟨gup_at _ _ _ _, by decide, fun _ => ?_, gext.refl _, by omega, by omega, hfr _⟩
      rw [gup_ne (by decide), gup_at, gup_ne (by decide), gup_ne (by decide), h2.1]
      exact ⟨rfl, by omega⟩
    · refine (hgood 4 72 hk h2.2.1.symm (by omega) (by decide) (by decide) (by decide)).mono (fun r T1 ν1 hh => ?_)
      obtain ⟨rfl, rfl, rfl⟩ := hh
      unfold g_X12_look
      refine gv_put (gv_tz (k1 := gret 0) (k2 := gret 0) (d_X12_isKind a1) (fun _ => gv_c1 (gv_ck a2 (gv_it (fun h => absurd h c0) (fun _ => gv_it (fun _ => gv_al hk (gv_ret ?_)) (fun h => absurd c1 h))))) (fun h => absurd hk h))
      refine ⟨gup_at _ _ _ _, by decide, fun _ => ?_, gext.refl _, by omega, by omega, hfr _⟩
      rw [gup_ne (by decide), gup_at, gup_ne (by decide), gup_ne (by decide), h2.2.1]
      exact ⟨rfl, by omega⟩
    · refine (hgood 5 73 hk h2.2.2.symm (by omega) (by decide) (by decide) (by decide)).mono (fun r T1 ν1 hh => ?_)
      obtain ⟨rfl, rfl, rfl⟩ := hh
      unfold g_X12_look
      refine gv_put (gv_tz (k1 := gret 0) (k2 := gret 0) (d_X12_isKind a1) (fun _ => gv_c1 (gv_ck a2 (gv_it (fun h => absurd h c0) (fun _ => gv_it (fun h => absurd h c1) (fun _ => gv_it (fun _ => gv_al hk (gv_ret ?_)) (fun h => absurd c2 h)))))) (fun h => absurd hk h))
      refine ⟨gup_at _ _ _ _, by decide, fun _ => ?_, gext.refl _, by omega, by omega, hfr _⟩
      rw [gup_ne (by decide), gup_at, gup_ne (by decide), gup_ne (by decide), h2.2.2]
      exact ⟨rfl, by omega⟩
    · unfold g_X12_look g_X12_fails
      refine gv_put (gv_tz (k1 := gret 0) (k2 := gret 0) (d_X12_isKind a1) (fun _ => gv_c1 (gv_ck a2 (gv_it (fun h => absurd h c0) (fun _ => gv_it (fun h => absurd h c1) (fun _ => gv_it (fun h => absurd h c2) (fun _ => ?_)))))) (fun h => absurd hk h))
      rw [gbd_retId]
      refine gv_put (gv_ret ⟨gup_at _ _ _ _, by decide, fun h => absurd h (by decide), gext.new _ _ _, Nat.le_refl _, ?_, hbad 2 (by decide)⟩)
      rw [gsl_new]; exact Nat.le_refl _
  · unfold g_X12_look g_X12_fails
    refine gv_put (gv_tz (k1 := gret 0) (k2 := gret 0) (d_X12_isKind a1) (fun h => absurd h hk) (fun _ => gv_c0 ?_))
    rw [gbd_retId]
    refine gv_put (gv_ret ⟨gup_at _ _ _ _, by decide, fun h => absurd h (by decide), gext.new _ _ _, Nat.le_refl _, ?_, hbad 1 (by decide)⟩)
    rw [gsl_new]; exact Nat.le_refl _
end
