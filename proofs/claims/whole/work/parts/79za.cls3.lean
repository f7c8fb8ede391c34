/-! PLAN: the class's reader, within an expression -/
section
variable {T : gT} {ν ν0 S : gN} {pl : Int}
theorem d_X9_isName {k : Int} (h : -1000 ≤ k ∧ k ≤ 1000) : gd (g_X9_isName k) T ν (if 12 ≤ k ∧ k ≤ 20 then 1 else 0) := by
  unfold g_X9_isName
  exact gd_cb ⟨⟨by omega, by omega⟩, ⟨by omega, by omega⟩⟩ (fun c => by rw [if_neg (by omega)]; exact gd_ret) (fun c => gd_cb ⟨⟨by omega, by omega⟩, ⟨by omega, by omega⟩⟩ (fun c2 => by rw [if_neg (by omega)]; exact gd_ret) (fun c2 => by rw [if_pos (by omega)]; exact gd_ret))
theorem s_t2 {k v : Int} (h : cI ν ν pl S) (hp : p2 S) (hk1 : 0 ≤ k ∧ k ≤ 30) (hv : ν (-905) 0 = v) (hv1 : 0 ≤ v ∧ v ≤ 1000) : gv (g_X5_takeOperand k) T ν (tkQ S ν pl k v) := by
  obtain ⟨h0, h7, ⟨hE, hC⟩, h5, hn, hc⟩ := hp
  have h64 := pE_64 hE
  have ef : fc S k v = (if k = 3 then (if S 4 0 < 8 then 0 else 2) else if k = 9 then (if S 5 0 = 0 then 1 else if S 1 0 < 64 then 0 else 2) else if k = 2 ∨ (12 ≤ k ∧ k ≤ 20) then (if S 1 0 < 64 ∧ v < 1000 then 0 else 2) else 1) := by unfold fc; rw [if_neg (by omega), if_neg (by omega), if_pos h0]
  have en : nx S k v = (if k = 3 then opn S else if k = 9 then opr S 9 else opd S k v) := by unfold nx; rw [if_neg (by omega), if_neg (by omega), if_pos h0]
  unfold g_X5_takeOperand
  refine gv_cb ⟨⟨by omega, by omega⟩, ⟨by omega, by omega⟩⟩ (fun c3 => gv_cb ⟨⟨by omega, by omega⟩, ⟨by omega, by omega⟩⟩ (fun c9 => ?_) (fun c9 => gv_get ?_)) (fun c3 => ?_)
  · rw [if_neg c3, if_neg c9] at ef en
    have hA : (k = 2 ∨ (12 ≤ k ∧ k ≤ 20)) → gv (g_X5_takeOperand_47 k) T ν (tkQ S ν pl k v) := fun c2 => by
      rw [if_pos c2] at ef
      unfold g_X5_takeOperand_47
      refine gv_get ?_
      rw [h.r1]
      refine gv_cb ⟨⟨by omega, by omega⟩, ⟨by omega, by omega⟩⟩ (fun c => gv_ret (tkQ_f (by rw [ef, if_neg (by omega)]) (by decide))) (fun c => gv_get ?_)
      rw [hv]
      refine gv_cb ⟨⟨by omega, by omega⟩, ⟨by omega, by omega⟩⟩ (fun cvr => gv_get (gv_put ?_)) (fun cvr => gv_ret (tkQ_f (by rw [ef, if_neg (by omega)]) (by decide)))
      rw [h.r1]
      rw [if_pos (by omega)] at ef
      have h1 := h.u1 0 (S 1 0 + 1)
      have v1 : gup ν (-804) 0 (S 1 0 + 1) (-905) 0 = v := by rw [gup_ne (by decide)]; exact hv
      generalize gup ν (-804) 0 (S 1 0 + 1) = ν1 at h1 v1 ⊢
      have hlt : 0 ≤ S 2 0 ∧ S 2 0 < 64 := by
        obtain ⟨h', o, s, e1, e2, e3, hE⟩ := hE
        have := hE.2.2.1
        omega
      have hB : ∀ w : Int, w = (if k = 2 then v else 1000 + k) → gv (g_X5_takeOperand_102 w) T ν1 (tkQ S ν pl k v) := fun w hw => by
        unfold g_X5_takeOperand_102
        refine gv_call (s_wrt h1 (by rw [gup_ne (by decide)]; exact hlt) w) (fun _ ν' hh => gv_put (gv_ret (tkQ_o ef en ?_)))
        unfold opd
        rw [← hw]
        exact hh.u0 0 3
      refine gv_cb ⟨⟨by omega, by omega⟩, ⟨by omega, by omega⟩⟩ (fun c4 => hB _ (by rw [if_neg c4])) (fun c4 => gv_get ?_)
      rw [v1]
      exact hB _ (by rw [if_pos (by omega)])
    refine gv_cb ⟨⟨by omega, by omega⟩, ⟨by omega, by omega⟩⟩ (fun c2 => hA (Or.inl c2)) (fun c2 => gv_rd (d_X9_isName (by omega)) ?_)
    by_cases cn : 12 ≤ k ∧ k ≤ 20
    · rw [if_pos cn]
      exact gv_cz (by decide) (fun _ => hA (Or.inr cn)) (fun g => absurd (by decide) g)
    · rw [if_neg cn]
      exact gv_cz (by decide) (fun g => absurd rfl g) (fun _ => gv_ret (tkQ_f (by rw [ef, if_neg (by omega)]) (by decide)))
  · have c9' : k = 9 := by omega
    rw [if_neg c3, if_pos c9'] at ef en
    rw [h.r5]
    refine gv_cz (by omega) (fun c5 => gv_ret (tkQ_f (by rw [ef, if_pos c5]) (by decide))) (fun c5 => ?_)
    rw [if_neg c5] at ef
    refine gv_call (s_opr h hE (Or.inl c9') (by unfold hk; omega) (by omega)) (fun r ν' hh => gv_ret ?_)
    rcases hh with ⟨g1, g2, g3⟩ | ⟨g1, g2, g3⟩
    · rw [g2]; exact tkQ_o (by rw [ef, if_pos g1]) en (by rw [← c9']; exact g3)
    · rw [g2, g3]; exact tkQ_f (by rw [ef, if_neg g1]) (by decide)
  · have c3' : k = 3 := by omega
    rw [if_pos c3'] at ef en
    unfold g_X5_takeOpen
    have hlt : S 4 0 < 8 → 0 ≤ S 3 0 ∧ S 3 0 < 72 := fun c => by
      obtain ⟨h', o, s, e1, e2, e3, hE⟩ := hE
      have := np_pr (S 9) h'
      have := hE.2.2.1
      have := hE.2.2.2.2.1
      omega
    refine gv_call (Q' := tkQ S ν pl k v) (gv_get ?_) (fun r ν' hh => gv_ret hh)
    rw [h.r4]
    refine gv_cb ⟨⟨by omega, by omega⟩, ⟨by omega, by omega⟩⟩ (fun c => gv_get (gv_put (gv_get ?_))) (fun c => gv_ret (tkQ_f (by rw [ef, if_neg c]) (by decide)))
    rw [h.r4]
    have h1 := h.u4 0 (S 4 0 + 1)
    rw [h1.r4, gup_at]
    refine gv_as (by omega) (gv_put (gv_call (s_hld ((h1.u10 (S 4 0 + 1) 0).u5 0 1) (by simp (disch := decide) only [gup_ne]; exact hlt c) 3) (fun _ ν' hh => gv_ret (tkQ_o (by rw [ef, if_pos c]) en hh))))
theorem s_t3 {k v : Int} (h : cI ν ν pl S) (hL : pL S) (hp : p3 S) (hk1 : 0 ≤ k ∧ k ≤ 30) : gv (g_X5_takeBehindOperand k) T ν (tkQ S ν pl k v) := by
  have hp' := id hp
  obtain ⟨h0, h7, ⟨hE, hC⟩, hc⟩ := hp
  have h64 := pE_64 hE
  have ef : fc S k v = (if k = 4 then (if S 4 0 = 0 then 1 else 0) else if (21 ≤ k ∧ k ≤ 26) ∧ ¬ S 10 (S 4 0) = 0 then 1 else if k = 10 ∨ k = 11 ∨ (21 ≤ k ∧ k ≤ 30) then (if S 1 0 < 64 then 0 else 2) else if 0 < S 4 0 then 1 else if ¬ S 6 0 = 0 then (if k = 7 ∨ k = 8 then 0 else 1) else if k = 5 then 0 else 1) := by unfold fc; rw [if_neg (by omega), if_neg (by omega), if_neg (by omega)]
  have en : nx S k v = (if k = 4 then cls S else if k = 10 ∨ k = 11 ∨ (21 ≤ k ∧ k ≤ 30) then opr S k else if ¬ S 6 0 = 0 then stD (rel S 1) k else eol S) := by unfold nx; rw [if_neg (by omega), if_neg (by omega), if_neg (by omega)]
  have l7 := hL.1
  have h6 : S 6 0 = 0 ∨ S 6 0 = 1 := by
    rcases hc with g | g
    · exact Or.inr g.1
    · exact Or.inl g.1
  have hrow := (rel_all (x := 1) (by decide) hE hL).1.1
  have e7 : rel S 1 7 = S 7 := hrow 7 (by decide) (by decide) (by decide)
  have e4 : rel S 1 4 = S 4 := hrow 4 (by decide) (by decide) (by decide)
  unfold g_X5_takeBehindOperand
  refine gv_cb ⟨⟨by omega, by omega⟩, ⟨by omega, by omega⟩⟩ (fun c4 => ?_) (fun c4 => ?_)
  · rw [if_neg c4] at ef en
    have h90 : (¬ (k = 10 ∨ k = 11 ∨ (21 ≤ k ∧ k ≤ 30))) → ¬ 0 < S 4 0 → (S 6 0 = 0 ∨ ¬ (k = 7 ∨ k = 8)) → gv (g_X5_takeBehindOperand_90 k) T ν (tkQ S ν pl k v) := fun co cd cx => by
      rw [if_neg (by omega), if_neg co, if_neg cd] at ef
      rw [if_neg co] at en
      unfold g_X5_takeBehindOperand_90
      refine gv_get ?_
      rw [h.r6]
      refine gv_cz (by omega) (fun c6 => gv_ret (tkQ_f (by rw [ef, if_pos c6, if_neg (by omega)]) (by decide))) (fun c6 => gv_cb ⟨⟨by omega, by omega⟩, ⟨by omega, by omega⟩⟩ (fun c5 => gv_ret (tkQ_f (by rw [ef, if_neg c6, if_neg c5]) (by decide))) (fun c5 => ?_))
      rw [if_neg c6, if_pos (by omega)] at ef
      rw [if_neg c6] at en
      refine gv_call (s_rel h hE (by decide)) (fun _ ν1 h1 => gv_get (gv_ck (by rw [h1.pq]; exact h1.1) (gv_get (gv_ck (by rw [h1.pq]; exact h1.1) (gv_get (gv_get ?_))))))
      rw [h1.pq, h1.r7, h1.r2, e7]
      refine gv_as (by omega) ?_
      have h2 := h1.u13 (S 7 0) (rel S 1 2 0)
      generalize gup ν1 (pl + 3) (S 7 0) (rel S 1 2 0) = ν2 at h2 ⊢
      refine gv_get (gv_ck (by rw [h2.pq]; exact h1.1) (gv_get (gv_ck (by rw [h2.pq]; exact h1.1) (gv_put (gv_put (gv_ret (tkQ_o ef en ?_)))))))
      rw [h2.pq, h2.r7, gup_ne (by decide), e7]
      exact (h2.u7 0 (S 7 0 + 1)).u0 0 0
    have h50 : (¬ (k = 10 ∨ k = 11 ∨ (21 ≤ k ∧ k ≤ 30))) → gv (g_X5_takeBehindOperand_50 k) T ν (tkQ S ν pl k v) := fun co => by
      have ef' := ef
      rw [if_neg (by omega), if_neg co] at ef'
      have en' := en
      rw [if_neg co] at en'
      unfold g_X5_takeBehindOperand_50
      refine gv_get ?_
      rw [h.r4]
      refine gv_cz (by omega) (fun cd => gv_get ?_) (fun cd => gv_ret (tkQ_f (by rw [ef', if_pos (by omega)]) (by decide)))
      rw [if_neg (by omega)] at ef'
      have h78 : ¬ S 6 0 = 0 → (k = 7 ∨ k = 8) → gv (g_X5_takeBehindOperand_78 k) T ν (tkQ S ν pl k v) := fun c6 c7 => by
        rw [if_pos c6, if_pos c7] at ef'
        rw [if_pos c6] at en'
        unfold g_X5_takeBehindOperand_78
        exact gv_call (s_rel h hE (by decide)) (fun _ ν1 h1 => gv_call (s_stD h1 (by rw [e7]; omega) hk1) (fun _ ν2 h2 => gv_ret (tkQ_o ef' en' h2)))
      rw [h.r6]
      exact gv_cz (by omega) (fun c6 => h90 co (by omega) (Or.inl c6)) (fun c6 => gv_cb ⟨⟨by omega, by omega⟩, ⟨by omega, by omega⟩⟩ (fun c7 => h78 c6 (Or.inl c7)) (fun c7 => gv_cb ⟨⟨by omega, by omega⟩, ⟨by omega, by omega⟩⟩ (fun c8 => h90 co (by omega) (Or.inr (by omega))) (fun c8 => h78 c6 (by omega))))
    have h31 : ¬ ((21 ≤ k ∧ k ≤ 26) ∧ ¬ S 10 (S 4 0) = 0) → gv (g_X5_takeBehindOperand_31 k) T ν (tkQ S ν pl k v) := fun cc => by
      unfold g_X5_takeBehindOperand_31
      refine gv_rd (d_X9_bindingOf (by omega)) ?_
      have hb := bnd_in (k := k)
      have hb0 : (1 ≤ bnd k ∧ k ≠ 9) ↔ (k = 10 ∨ k = 11 ∨ (21 ≤ k ∧ k ≤ 30)) := by
        constructor
        · intro g
          have : bnd k = if k = 10 then 1 else if k = 11 then 2 else if k = 9 then 3 else if 21 ≤ k ∧ k ≤ 26 then 4 else if k = 27 ∨ k = 28 then 5 else if k = 29 ∨ k = 30 then 6 else 0 := rfl
          by_cases a : k = 10 ∨ k = 11 ∨ (21 ≤ k ∧ k ≤ 30)
          · exact a
          · rw [if_neg (by omega), if_neg (by omega), if_neg (by omega), if_neg (by omega), if_neg (by omega), if_neg (by omega)] at this
            omega
        · intro g
          exact ⟨(hk_bnd (k := k) (by unfold hk; omega)).2.1 (by omega), by omega⟩
      refine gv_cz ⟨by omega, by omega⟩ (fun c => h50 (fun g => by have := hb0.mpr g; omega)) (fun c => gv_cb ⟨⟨by omega, by omega⟩, ⟨by omega, by omega⟩⟩ (fun c9 => h50 (by omega)) (fun c9 => ?_))
      have co := hb0.mp ⟨by omega, c9⟩
      rw [if_neg cc, if_pos co] at ef
      rw [if_pos co] at en
      refine gv_call (s_opr h hE (Or.inr rfl) (by unfold hk; omega) (by omega)) (fun r ν' hh => gv_ret ?_)
      rcases hh with ⟨g1, g2, g3⟩ | ⟨g1, g2, g3⟩
      · rw [g2]; exact tkQ_o (by rw [ef, if_pos g1]) en g3
      · rw [g2, g3]; exact tkQ_f (by rw [ef, if_neg g1]) (by decide)
    refine gv_rd (d_X9_isComparison (by omega)) ?_
    by_cases cc : 21 ≤ k ∧ k ≤ 26
    · rw [if_pos cc]
      refine gv_cz (by decide) (fun g => absurd g (by decide)) (fun _ => gv_get ?_)
      rw [h.r4]
      refine gv_al (by omega) ?_
      rw [h.r10]
      have h01 := cv_01 (S 9) (S 3 0).toNat
      rw [← hC] at h01
      refine gv_cz (by omega) (fun c => h31 (fun g => g.2 c)) (fun c => gv_ret (tkQ_f (by rw [ef, if_pos ⟨cc, c⟩]) (by decide)))
    · rw [if_neg cc]
      exact gv_cz (by decide) (fun _ => h31 (fun g => cc g.1)) (fun g => absurd rfl g)
  · rw [if_pos (by omega)] at ef en
    unfold g_X5_takeClose
    refine gv_call (Q' := tkQ S ν pl k v) (gv_get ?_) (fun r ν' hh => gv_ret hh)
    rw [h.r4]
    refine gv_cz (by omega) (fun c => gv_call (s_rel h hE (by decide)) (fun _ ν1 h1 => gv_get (gv_put (gv_get (gv_put (gv_ret (tkQ_o (by rw [ef, if_neg c]) en ?_))))))) (fun c => gv_ret (tkQ_f (by rw [ef, if_pos (by omega)]) (by decide)))
    rw [h1.r3]
    have h2 := h1.u3 0 (rel S 1 3 0 - 1)
    rw [h2.r4, gup_ne (by decide), e4]
    exact h2.u4 0 (S 4 0 - 1)
theorem s_take {k v : Int} (h : cI ν ν pl S) (hI : pI S) (hk1 : 0 ≤ k ∧ k ≤ 30) (hv : ν (-905) 0 = v) (hv1 : 0 ≤ v ∧ v ≤ 1000) : gv (g_X5_take k) T ν (tkQ S ν pl k v) := by
  obtain ⟨hL, hI⟩ := hI
  unfold g_X5_take
  refine gv_get ?_
  rw [h.r0]
  have hin : ∀ x : Int, 0 ≤ x ∧ x ≤ 3 → hf_inI x := fun x hx => by unfold hf_inI; omega
  rcases hI with hp | hp | hp | hp
  · refine gv_ck (hin _ (by have := hp.1; omega)) (gv_it (fun _ => gv_call (s_t0 h hL hp hk1) (fun r ν' hh => gv_ret hh)) (fun c => absurd hp.1 c))
  · have e := hp.1
    refine gv_ck (hin _ (by omega)) (gv_it (fun c => by omega) (fun c => gv_it (fun c => gv_call (s_t1 h hL hp hk1 hv hv1) (fun r ν' hh => gv_ret hh)) (fun c => by omega)))
  · have e := hp.1
    refine gv_ck (hin _ (by omega)) (gv_it (fun c => by omega) (fun c => gv_it (fun c => by omega) (fun c => gv_it (fun c => gv_call (s_t2 h hp hk1 hv hv1) (fun r ν' hh => gv_ret hh)) (fun c => by omega))))
  · have e := hp.1
    refine gv_ck (hin _ (by omega)) (gv_it (fun c => by omega) (fun c => gv_it (fun c => by omega) (fun c => gv_it (fun c => by omega) (fun c => gv_call (s_t3 h hL hp hk1) (fun r ν' hh => gv_ret hh)))))
end
