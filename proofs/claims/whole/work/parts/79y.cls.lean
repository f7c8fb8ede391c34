/-! PLAN: the class's reader does what the function says -/
def cm (pl r : Int) : Int := if r = 0 then -806 else if r = 1 then -804 else if r = 2 then -805 else if r = 3 then -803 else if r = 4 then -807 else if r = 5 then -809 else if r = 6 then -810 else if r = 7 then -(100 * pl + 0) else if r = 8 then pl + 4 else if r = 9 then 16 else if r = 10 then 17 else if r = 11 then pl + 1 else if r = 12 then pl + 2 else pl + 3
theorem cm_inj {pl : Int} (h : pl = 18 ∨ pl = 23) {r r' : Int} (h1 : 0 ≤ r ∧ r ≤ 13) (h2 : 0 ≤ r' ∧ r' ≤ 13) (hr : r' ≠ r) : cm pl r' ≠ cm pl r := by
  have key : ∀ p, p = 18 ∨ p = 23 → ∀ a : Fin 14, ∀ b : Fin 14, cm p (a.val : Int) = cm p (b.val : Int) → a = b := by
    intro p hp
    rcases hp with e | e <;> subst e <;> decide
  intro e
  have := key pl h ⟨r'.toNat, by omega⟩ ⟨r.toNat, by omega⟩ (by show cm pl (r'.toNat : Int) = cm pl (r.toNat : Int); rw [show (r'.toNat : Int) = r' by omega, show (r.toNat : Int) = r by omega]; exact e)
  have := congrArg Fin.val this
  dsimp only at this
  omega
theorem cm_801 {pl : Int} (h : pl = 18 ∨ pl = 23) {r : Int} (h1 : 0 ≤ r ∧ r ≤ 13) : (-801 : Int) ≠ cm pl r := by
  have key : ∀ p, p = 18 ∨ p = 23 → ∀ a : Fin 14, ¬ (-801 : Int) = cm p (a.val : Int) := by
    intro p hp
    rcases hp with e | e <;> subst e <;> decide
  intro e
  exact key pl h ⟨r.toNat, by omega⟩ (by show (-801 : Int) = cm pl (r.toNat : Int); rw [show (r.toNat : Int) = r by omega]; exact e)
def cI (ν0 ν : gN) (pl : Int) (S : gN) : Prop := (pl = 18 ∨ pl = 23) ∧ ν (-801) 0 = pl ∧ (∀ r : Int, 0 ≤ r → r ≤ 13 → ν (cm pl r) = S r) ∧ ∀ b : Int, (∀ r : Int, 0 ≤ r → r ≤ 13 → b ≠ cm pl r) → ν b = ν0 b
section
variable {T : gT} {ν ν0 S : gN} {pl : Int}
theorem cI.up (h : cI ν0 ν pl S) (r j v : Int) (hr : 0 ≤ r ∧ r ≤ 13) : cI ν0 (gup ν (cm pl r) j v) pl (gup S r j v) := by
  obtain ⟨h1, h2, h3, h4⟩ := h
  refine ⟨h1, by rw [gup_ne (cm_801 h1 hr)]; exact h2, fun r' a b => ?_, fun b hb => by rw [gup_ne (hb r hr.1 hr.2)]; exact h4 b hb⟩
  by_cases c : r' = r
  · rw [c]; funext j'; rw [gup_same, gup_same, h3 r hr.1 hr.2]
  · rw [gup_ne (cm_inj h1 hr ⟨a, b⟩ c), gup_ne c]; exact h3 r' a b
theorem cI.gh (h : cI ν0 ν pl S) (j v : Int) : cI ν0 ν pl (gup S 14 j v) := by
  obtain ⟨h1, h2, h3, h4⟩ := h
  exact ⟨h1, h2, fun r a b => by rw [gup_ne (by omega)]; exact h3 r a b, h4⟩
theorem cI.r0 (h : cI ν0 ν pl S) : ν (-806) = S 0 := h.2.2.1 0 (by decide) (by decide)
theorem cI.r1 (h : cI ν0 ν pl S) : ν (-804) = S 1 := h.2.2.1 1 (by decide) (by decide)
theorem cI.r2 (h : cI ν0 ν pl S) : ν (-805) = S 2 := h.2.2.1 2 (by decide) (by decide)
theorem cI.r3 (h : cI ν0 ν pl S) : ν (-803) = S 3 := h.2.2.1 3 (by decide) (by decide)
theorem cI.r4 (h : cI ν0 ν pl S) : ν (-807) = S 4 := h.2.2.1 4 (by decide) (by decide)
theorem cI.r5 (h : cI ν0 ν pl S) : ν (-809) = S 5 := h.2.2.1 5 (by decide) (by decide)
theorem cI.r6 (h : cI ν0 ν pl S) : ν (-810) = S 6 := h.2.2.1 6 (by decide) (by decide)
theorem cI.r7 (h : cI ν0 ν pl S) : ν (-(100 * pl + 0)) = S 7 := h.2.2.1 7 (by decide) (by decide)
theorem cI.r8 (h : cI ν0 ν pl S) : ν (pl + 4) = S 8 := h.2.2.1 8 (by decide) (by decide)
theorem cI.r9 (h : cI ν0 ν pl S) : ν 16 = S 9 := h.2.2.1 9 (by decide) (by decide)
theorem cI.r10 (h : cI ν0 ν pl S) : ν 17 = S 10 := h.2.2.1 10 (by decide) (by decide)
theorem cI.u0 (h : cI ν0 ν pl S) (j v : Int) : cI ν0 (gup ν (-806) j v) pl (gup S 0 j v) := h.up 0 j v (by decide)
theorem cI.u1 (h : cI ν0 ν pl S) (j v : Int) : cI ν0 (gup ν (-804) j v) pl (gup S 1 j v) := h.up 1 j v (by decide)
theorem cI.u2 (h : cI ν0 ν pl S) (j v : Int) : cI ν0 (gup ν (-805) j v) pl (gup S 2 j v) := h.up 2 j v (by decide)
theorem cI.u3 (h : cI ν0 ν pl S) (j v : Int) : cI ν0 (gup ν (-803) j v) pl (gup S 3 j v) := h.up 3 j v (by decide)
theorem cI.u4 (h : cI ν0 ν pl S) (j v : Int) : cI ν0 (gup ν (-807) j v) pl (gup S 4 j v) := h.up 4 j v (by decide)
theorem cI.u5 (h : cI ν0 ν pl S) (j v : Int) : cI ν0 (gup ν (-809) j v) pl (gup S 5 j v) := h.up 5 j v (by decide)
theorem cI.u6 (h : cI ν0 ν pl S) (j v : Int) : cI ν0 (gup ν (-810) j v) pl (gup S 6 j v) := h.up 6 j v (by decide)
theorem cI.u7 (h : cI ν0 ν pl S) (j v : Int) : cI ν0 (gup ν (-(100 * pl + 0)) j v) pl (gup S 7 j v) := h.up 7 j v (by decide)
theorem cI.u8 (h : cI ν0 ν pl S) (j v : Int) : cI ν0 (gup ν (pl + 4) j v) pl (gup S 8 j v) := h.up 8 j v (by decide)
theorem cI.u9 (h : cI ν0 ν pl S) (j v : Int) : cI ν0 (gup ν 16 j v) pl (gup S 9 j v) := h.up 9 j v (by decide)
theorem cI.u10 (h : cI ν0 ν pl S) (j v : Int) : cI ν0 (gup ν 17 j v) pl (gup S 10 j v) := h.up 10 j v (by decide)
theorem cI.u11 (h : cI ν0 ν pl S) (j v : Int) : cI ν0 (gup ν (pl + 1) j v) pl (gup S 11 j v) := h.up 11 j v (by decide)
theorem cI.u12 (h : cI ν0 ν pl S) (j v : Int) : cI ν0 (gup ν (pl + 2) j v) pl (gup S 12 j v) := h.up 12 j v (by decide)
theorem cI.u13 (h : cI ν0 ν pl S) (j v : Int) : cI ν0 (gup ν (pl + 3) j v) pl (gup S 13 j v) := h.up 13 j v (by decide)
theorem cI.pq (h : cI ν0 ν pl S) : ν (-801) 0 = pl := h.2.1
theorem s_stE (h : cI ν0 ν pl S) : gv g_X5_startExpression T ν (fun _ ν' => cI ν0 ν' pl (stE S)) := by
  unfold g_X5_startExpression
  exact gv_put (gv_put (gv_as (by decide) (gv_put (gv_put (gv_ret (((((((h.u3 0 0).u4 0 0).u10 0 0).u5 0 1).u0 0 2).gh 0 _)))))))
theorem s_wrt (h : cI ν0 ν pl S) (h2 : 0 ≤ S 2 0 ∧ S 2 0 < 64) (w : Int) : gv (g_X5_write w) T ν (fun _ ν' => cI ν0 ν' pl (wrt S w)) := by
  unfold g_X5_write
  refine gv_get ?_
  rw [h.r2]
  refine gv_cb ⟨⟨by omega, by omega⟩, ⟨by omega, by omega⟩⟩ (fun c => by omega) (fun c => gv_get (gv_ck (by rw [h.pq]; exact h.1) (gv_get ?_)))
  rw [h.r2, h.pq]
  refine gv_as (by omega) (gv_get (gv_put (gv_ret ?_)))
  have h8 := h.u8 (S 2 0) w
  rw [h8.r2, gup_ne (by decide)]
  exact h8.u2 0 _
theorem s_hld (h : cI ν0 ν pl S) (h2 : 0 ≤ S 3 0 ∧ S 3 0 < 72) (k : Int) : gv (g_X5_hold k) T ν (fun _ ν' => cI ν0 ν' pl (hld S k)) := by
  unfold g_X5_hold
  refine gv_get ?_
  rw [h.r3]
  refine gv_cb ⟨⟨by omega, by omega⟩, ⟨by omega, by omega⟩⟩ (fun c => by omega) (fun c => gv_get ?_)
  rw [h.r3]
  refine gv_as (by omega) (gv_get (gv_put (gv_ret ?_)))
  have h8 := h.u9 (S 3 0) k
  rw [h8.r3, gup_ne (by decide)]
  exact h8.u3 0 _
theorem pE_hk {S : gN} {m : Int} {e : Nat} (h : pE S m e) (h1 : 0 < S 3 0) : hk (S 9 (S 3 0 - 1)) := by
  obtain ⟨h', o, s, e1, e2, e3, hE⟩ := h
  have := hE.1 (h' - 1) (by omega)
  rw [show S 3 0 - 1 = ((h' - 1 : Nat) : Int) by omega]; exact this
theorem s_rel {m x : Int} (h : cI ν0 ν pl S) (hE : pE S m 1) (hx : 1 ≤ x ∧ x ≤ 6) : gv (g_X5_release x) T ν (fun _ ν' => cI ν0 ν' pl (rel S x)) := by
  unfold g_X5_release g_X5_release_0
  have h64 := pE_64 hE
  refine gv_fx (fun (_ : Unit) τ => ∃ S', cI ν0 τ pl S' ∧ pE S' m 1 ∧ rel S x = rel S' x) (fun _ τ => (τ (-803) 0).toNat) ⟨S, h, hE, rfl⟩ (by rw [h.r3]; omega) ?_
  intro rec _ τ hI hrec
  obtain ⟨S', hc, hE', er⟩ := hI
  have g64 := pE_64 hE'
  unfold gB_X5_release_0
  refine gv_get ?_
  rw [hc.r3]
  refine gv_cz ⟨by omega, by omega⟩ (fun c => gv_ret (by rw [er, rel_stop (by omega)]; exact hc)) (fun c => gv_get (gv_al ?_ ?_))
  · rw [hc.r3]; omega
  have hkk := pE_hk hE' (by omega)
  have hkr : 0 ≤ S' 9 (S' 3 0 - 1) ∧ S' 9 (S' 3 0 - 1) ≤ 30 := by unfold hk at hkk; omega
  have hbi := bnd_in (k := S' 9 (S' 3 0 - 1))
  rw [hc.r9, hc.r3]
  refine gv_rd (d_X9_bindingOf (by omega)) (gv_cb ⟨⟨by omega, by omega⟩, ⟨by omega, by omega⟩⟩ (fun c2 => gv_ret (by rw [er, rel_stop (by omega)]; exact hc)) (fun c2 => gv_get (gv_put (gv_get ?_))))
  rw [hc.r3]
  have h3 := hc.u3 0 (S' 3 0 - 1)
  rw [h3.r3, gup_at]
  refine gv_al (by omega) ?_
  rw [h3.r9, gup_ne (by decide)]
  have hne : S' 9 (S' 3 0 - 1) ≠ 3 := fun q => by have := (hk_bnd hkk).1 q; omega
  refine gv_call (s_wrt h3 (by rw [gup_ne (by decide)]; have := g64.2.2.2.2.2.2.2.2 (by omega) hne; omega) _) (fun _ ν' hh => hrec () ν' ⟨pop1 S', hh, pE_pop hE' (by omega) (by omega), by rw [er]; exact rel_pop (by omega) (by omega)⟩ ?_)
  have e1 := hh.r3
  rw [e1, hc.r3]
  show (pop1 S' 3 0).toNat < _
  rw [pop1_3]; omega
end
