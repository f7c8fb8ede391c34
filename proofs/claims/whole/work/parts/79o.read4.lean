/-! PLAN: what is let go -/
/-- how many of the h held kinds bind at least x, from the top -/
def pcn (H : Int → Int) (x : Int) : Nat → Nat
  | 0 => 0
  | h + 1 => if bnd (H h) < x then 0 else pcn H x h + 1
theorem pcn_le (H : Int → Int) (x : Int) : ∀ h : Nat, pcn H x h ≤ h := by
  intro h
  induction h with
  | zero => exact Nat.le_refl _
  | succ h ih => show (if bnd (H h) < x then 0 else pcn H x h + 1) ≤ h + 1; split <;> omega
theorem bnd_in {k : Int} : 0 ≤ bnd k ∧ bnd k ≤ 6 := by
  unfold bnd
  repeat' split
  all_goals omega
section
variable {T : gT} {ν : gN}
theorem s_X5_write {w o pl : Int} (h5 : ν (-805) 0 = o) (ho : 0 ≤ o ∧ o < 64) (h1 : ν (-801) 0 = pl) (hpl : pl = 18 ∨ pl = 23) : gv (g_X5_write w) T ν (fun _ ν' => ν' = gup (gup ν (pl + 4) o w) (-805) 0 (o + 1)) := by
  unfold g_X5_write
  refine gv_get (gv_cb ⟨⟨by omega, by omega⟩, ⟨by omega, by omega⟩⟩ (fun c => by omega) (fun c => gv_get (gv_ck (by rw [h1]; exact hpl) (gv_get (gv_as (by omega) (gv_get (gv_put (gv_ret ?_))))))))
  rw [h1, h5, gup_ne (by omega), h5]
theorem s_X5_release {H : Int → Int} {h : Nat} {x o pl : Int} (h3 : ν (-803) 0 = h) (hh : h ≤ 72) (h16 : ν 16 = H) (hin : ∀ i : Nat, i < h → 0 ≤ H i ∧ H i ≤ 30) (h5 : ν (-805) 0 = o) (ho : 0 ≤ o ∧ o + pcn H x h ≤ 64) (h1 : ν (-801) 0 = pl) (hpl : pl = 18 ∨ pl = 23) (hx : 0 ≤ x ∧ x ≤ 6) : gv (g_X5_release x) T ν (fun _ ν' => gfr [-803, -805, pl + 4] ν ν' ∧ ν' (-803) 0 = (h : Int) - pcn H x h ∧ ν' (-805) 0 = o + pcn H x h ∧ ∀ j : Int, ν' (pl + 4) j = if o ≤ j ∧ j < o + pcn H x h then 1000 + H (h - 1 - (j - o)) else ν (pl + 4) j) := by
  unfold g_X5_release g_X5_release_0
  refine gv_fx (fun (_ : Unit) τ => ∃ m : Nat, m ≤ h ∧ pcn H x h = m + pcn H x (h - m) ∧ gfr [-803, -805, pl + 4] ν τ ∧ τ (-803) 0 = (h : Int) - m ∧ τ (-805) 0 = o + m ∧ ∀ j : Int, τ (pl + 4) j = if o ≤ j ∧ j < o + m then 1000 + H (h - 1 - (j - o)) else ν (pl + 4) j) (fun _ τ => (τ (-803) 0).toNat) ⟨0, by omega, by simp, gfr.refl _ _, by omega, by omega, fun j => by rw [if_neg (by omega)]⟩ (by omega) ?_
  intro rec _ τ hI hrec
  obtain ⟨m, hm, hpc, hf, e3, e5, er⟩ := hI
  have hle := pcn_le H x (h - m)
  unfold gB_X5_release_0
  have hdone : pcn H x (h - m) = 0 → gfr [-803, -805, pl + 4] ν τ ∧ τ (-803) 0 = (h : Int) - pcn H x h ∧ τ (-805) 0 = o + pcn H x h ∧ ∀ j : Int, τ (pl + 4) j = if o ≤ j ∧ j < o + pcn H x h then 1000 + H (h - 1 - (j - o)) else ν (pl + 4) j := fun e => by
    rw [e, Nat.add_zero] at hpc
    rw [hpc]
    exact ⟨hf, e3, e5, er⟩
  refine gv_get ?_
  rw [e3]
  refine gv_cz ⟨by omega, by omega⟩ (fun c => gv_ret (hdone (by omega))) (fun c => gv_get (gv_al (by omega) ?_))
  have f16 : τ 16 = H := by rw [hf 16 (by rcases hpl with e | e <;> rw [e] <;> decide)]; exact h16
  have f1 : τ (-801) 0 = pl := by rw [hf (-801) (by rcases hpl with e | e <;> rw [e] <;> decide)]; exact h1
  rw [f16, e3, show (h : Int) - m - 1 = ((h - m - 1 : Nat) : Int) by omega]
  have hk := hin (h - m - 1) (by omega)
  have hb := bnd_in (k := H ((h - m - 1 : Nat) : Int))
  have est : pcn H x (h - m) = if bnd (H ((h - m - 1 : Nat) : Int)) < x then 0 else pcn H x (h - m - 1) + 1 := by
    have : h - m = (h - m - 1) + 1 := by omega
    rw [this]; rfl
  refine gv_rd (d_X9_bindingOf (by omega)) (gv_cb ⟨⟨by omega, by omega⟩, ⟨by omega, by omega⟩⟩ (fun c2 => gv_ret (hdone (by rw [est, if_pos c2]))) (fun c2 => gv_get (gv_put (gv_get (gv_al ?_ ?_)))))
  · rw [gup_at, e3]; omega
  · rw [gup_at, gup_ne (by decide), f16, e3, show (h : Int) - m - 1 = ((h - m - 1 : Nat) : Int) by omega]
    rw [if_neg c2] at est
    refine gv_call (s_X5_write (o := o + m) (pl := pl) (by rw [gup_ne (by decide)]; exact e5) (by omega) (by rw [gup_ne (by decide)]; exact f1) hpl) (fun _ ν' hv => ?_)
    subst hv
    refine hrec _ _ ⟨m + 1, by omega, ?_, ((hf.up (by simp)).up (by simp)).up (by simp), ?_, ?_, fun j => ?_⟩ ?_
    · rw [show h - (m + 1) = h - m - 1 by omega]; omega
    · rw [gup_ne (by decide), gup_ne (by omega), gup_at]; omega
    · rw [gup_at]; omega
    · rw [gup_ne (by omega), gup_same, gup_ne (by omega), er j]
      by_cases c3 : j = o + m
      · rw [if_pos c3, if_pos (by omega), show (h : Int) - 1 - (j - o) = ((h - m - 1 : Nat) : Int) by omega]
      · rw [if_neg c3]
        by_cases c4 : o ≤ j ∧ j < o + m
        · rw [if_pos c4, if_pos (by omega)]
        · rw [if_neg c4, if_neg (by omega)]
    · rw [gup_ne (by decide), gup_ne (by omega), gup_at]; omega
end
