/-! PLAN: the class's reader, token by token -/
section
variable {T : gT} {ν ν0 S : gN} {pl : Int}
theorem s_stD (h : cI ν0 ν pl S) (h7 : 0 ≤ S 7 0 ∧ S 7 0 < 12) {k : Int} (hk1 : 0 ≤ k ∧ k ≤ 30) : gv (g_X5_startDeed k) T ν (fun _ ν' => cI ν0 ν' pl (stD S k)) := by
  unfold g_X5_startDeed
  refine gv_put ?_
  have h1 := h.u6 0 0
  generalize gup ν (-810) 0 0 = ν1 at h1 ⊢
  refine gv_get (gv_ck (by rw [h1.pq]; exact h1.1) (gv_get (gv_ck (by rw [h1.pq]; exact h1.1) (gv_get (gv_get ?_)))))
  rw [h1.pq, h1.r7, h1.r2, gup_ne (by decide), gup_ne (by decide)]
  refine gv_as (by omega) ?_
  have h2 := h1.u12 (S 7 0) (S 2 0)
  generalize gup ν1 (pl + 2) (S 7 0) (S 2 0) = ν2 at h2 ⊢
  refine gv_cb ⟨⟨by omega, by omega⟩, ⟨by omega, by omega⟩⟩ (fun c => gv_get (gv_ck (by rw [h2.pq]; exact h1.1) (gv_get (gv_ck (by rw [h2.pq]; exact h1.1) (gv_get ?_))))) (fun c => gv_put (gv_ret ?_))
  · rw [h2.pq, h2.r7, gup_ne (by decide), gup_ne (by decide)]
    refine gv_as (by omega) (gv_call (s_stE (h2.u11 (S 7 0) 3)) (fun _ ν' hh => gv_ret ?_))
    unfold stD; rw [if_neg c]; exact hh
  · unfold stD; rw [if_pos (by omega)]; exact h2.u0 0 1
def tkQ (S : gN) (ν : gN) (pl k v : Int) (r : Int) (ν' : gN) : Prop := r = fc S k v ∧ (fc S k v = 0 → cI ν ν' pl (nx S k v)) ∧ (¬ fc S k v = 0 → ν' = ν)
theorem tkQ_f {k v c : Int} (e : fc S k v = c) (hc : ¬ c = 0) : tkQ S ν pl k v c ν := ⟨e.symm, fun g => absurd (e.symm.trans g) hc, fun _ => rfl⟩
theorem tkQ_o {k v : Int} {ν' S' : gN} (e : fc S k v = 0) (en : nx S k v = S') (h : cI ν ν' pl S') : tkQ S ν pl k v 0 ν' := ⟨e.symm, fun _ => by rw [en]; exact h, fun g => absurd e g⟩
theorem s_t0 {k v : Int} (h : cI ν ν pl S) (hL : pL S) (hp : p0 S) (hk1 : 0 ≤ k ∧ k ≤ 30) : gv (g_X5_takeAtLine k) T ν (tkQ S ν pl k v) := by
  have ef : fc S k v = (if k = 0 then 0 else if k = 6 ∨ k = 7 ∨ k = 8 then (if S 7 0 < 12 then 0 else 2) else 1) := by unfold fc; rw [if_pos hp.1]
  have en : nx S k v = (if k = 0 then S else if k = 6 then stE (gup S 6 0 1) else stD S k) := by unfold nx; rw [if_pos hp.1]
  have l7 := hL.1
  unfold g_X5_takeAtLine
  have hA : ¬ k = 0 → (k = 6 ∨ k = 7 ∨ k = 8) → gv (g_X5_takeAtLine_26 k) T ν (tkQ S ν pl k v) := fun c0 c6 => by
    rw [if_neg c0, if_pos c6] at ef
    rw [if_neg c0] at en
    unfold g_X5_takeAtLine_26
    refine gv_get (gv_ck (by rw [h.pq]; exact h.1) (gv_get ?_))
    rw [h.pq, h.r7]
    refine gv_cb ⟨⟨by omega, by omega⟩, ⟨by omega, by omega⟩⟩ (fun c => gv_cb ⟨⟨by omega, by omega⟩, ⟨by omega, by omega⟩⟩ (fun c2 => ?_) (fun c2 => gv_put ?_)) (fun c => gv_ret (tkQ_f (by rw [ef, if_neg c]) (by decide)))
    · refine gv_call (s_stD h (by omega) hk1) (fun _ ν' hh => gv_ret (tkQ_o (by rw [ef, if_pos c]) (by rw [en, if_neg c2]) hh))
    · refine gv_call (s_stE (h.u6 0 1)) (fun _ ν' hh => gv_ret (tkQ_o (by rw [ef, if_pos c]) (by rw [en, if_pos (by omega)]) hh))
  refine gv_cz ⟨by omega, by omega⟩ (fun c => gv_cb ⟨⟨by omega, by omega⟩, ⟨by omega, by omega⟩⟩ (fun c2 => hA c (by omega)) (fun c2 => gv_cb ⟨⟨by omega, by omega⟩, ⟨by omega, by omega⟩⟩ (fun c3 => hA c (by omega)) (fun c3 => gv_cb ⟨⟨by omega, by omega⟩, ⟨by omega, by omega⟩⟩ (fun c4 => hA c (by omega)) (fun c4 => gv_ret (tkQ_f ?_ (by decide)))))) (fun c => gv_ret (tkQ_o ?_ ?_ h))
  · rw [ef, if_neg c, if_neg (by omega)]
  · rw [ef, if_pos (by omega)]
  · rw [en, if_pos (by omega)]
theorem s_t1 {k v : Int} (h : cI ν ν pl S) (hL : pL S) (hp : p1 S) (hk1 : 0 ≤ k ∧ k ≤ 30) (hv : ν (-905) 0 = v) (hv1 : 0 ≤ v ∧ v ≤ 1000) : gv (g_X5_takeKind k) T ν (tkQ S ν pl k v) := by
  have ef : fc S k v = (if k = 2 then (if v < 3 then 0 else 2) else 1) := by unfold fc; rw [if_neg (by have := hp.1; omega), if_pos hp.1]
  have en : nx S k v = stE (gup S 11 (S 7 0) v) := by unfold nx; rw [if_neg (by have := hp.1; omega), if_pos hp.1]
  have l7 := hL.1
  have p7 := hp.2.1
  unfold g_X5_takeKind
  refine gv_cb ⟨⟨by omega, by omega⟩, ⟨by omega, by omega⟩⟩ (fun c => gv_get ?_) (fun c => gv_ret (tkQ_f (by rw [ef, if_neg c]) (by decide)))
  rw [if_pos c] at ef
  rw [hv]
  refine gv_cb ⟨⟨by omega, by omega⟩, ⟨by omega, by omega⟩⟩ (fun c2 => gv_get (gv_ck (by rw [h.pq]; exact h.1) (gv_get (gv_ck (by rw [h.pq]; exact h.1) (gv_get (gv_get ?_)))))) (fun c2 => gv_ret (tkQ_f (by rw [ef, if_neg c2]) (by decide)))
  rw [h.pq, h.r7, hv]
  exact gv_as (by omega) (gv_call (s_stE (h.u11 (S 7 0) v)) (fun _ ν' hh => gv_ret (tkQ_o (by rw [ef, if_pos c2]) en hh)))
theorem s_op2 {k d : Int} (h : cI ν0 ν pl S) (hd : S 4 0 = d) (hd1 : 0 ≤ d ∧ d ≤ 8) (hk1 : hk k) (h3 : k ≠ 3) {s : Int} (hs : s = if k = 9 ∨ k = 10 ∨ k = 11 then 1 else 0) : gv (g_X5_takeOperator_64 k s) T ν (fun r ν' => r = 0 ∧ cI ν0 ν' pl (op2 S k d)) := by
  have hkr : 0 ≤ k ∧ k ≤ 30 := by unfold hk at hk1; omega
  have s01 : s = 0 ∨ s = 1 := by rw [hs]; split <;> omega
  unfold g_X5_takeOperator_64 g_X5_takeOperator_104
  refine gv_ck s01 (gv_put ?_)
  have h1 := h.u5 0 s
  generalize gup ν (-809) 0 s = ν1 at h1 ⊢
  refine gv_rd (d_X9_isComparison (by omega)) ?_
  unfold op2
  by_cases c : 21 ≤ k ∧ k ≤ 26
  · rw [if_pos c, if_pos c]
    refine gv_cz (by decide) (fun g => absurd g (by decide)) (fun _ => gv_get ?_)
    rw [h1.r4, gup_ne (by decide), hd]
    rw [if_neg (by omega)] at hs
    subst hs
    exact gv_as (by omega) (gv_put (gv_ret ⟨rfl, (h1.u10 d 1).u0 0 2⟩))
  · rw [if_neg c, if_neg c]
    refine gv_cz (by decide) (fun _ => gv_get ?_) (fun g => absurd rfl g)
    rw [h1.r5, gup_at]
    by_cases c2 : k = 9 ∨ k = 10 ∨ k = 11
    · rw [if_pos c2] at hs ⊢
      subst hs
      refine gv_cz (by decide) (fun g => absurd g (by decide)) (fun _ => gv_get ?_)
      rw [h1.r4, gup_ne (by decide), hd]
      exact gv_as (by omega) (gv_put (gv_ret ⟨rfl, (h1.u10 d 0).u0 0 2⟩))
    · rw [if_neg c2] at hs ⊢
      subst hs
      exact gv_cz (by decide) (fun _ => gv_put (gv_ret ⟨rfl, h1.u0 0 2⟩)) (fun g => absurd rfl g)
theorem s_op3 {k d : Int} (h : cI ν0 ν pl S) (h2 : 0 ≤ S 3 0 ∧ S 3 0 < 72) (hd : S 4 0 = d) (hd1 : 0 ≤ d ∧ d ≤ 8) (hk1 : hk k) (h3 : k ≠ 3) : gv (g_X5_takeOperator_35 k) T ν (fun r ν' => r = 0 ∧ cI ν0 ν' pl (op2 (hld S k) k d)) := by
  have hkr : 0 ≤ k ∧ k ≤ 30 := by unfold hk at hk1; omega
  unfold g_X5_takeOperator_35
  refine gv_call (s_hld h h2 k) (fun _ ν' hh => ?_)
  have hd' : hld S k 4 0 = d := by unfold hld; rw [gup_ne (by decide), gup_ne (by decide)]; exact hd
  refine gv_cb ⟨⟨by omega, by omega⟩, ⟨by omega, by omega⟩⟩ (fun c => s_op2 hh hd' hd1 hk1 h3 (by rw [if_pos (by omega)])) (fun c => gv_cb ⟨⟨by omega, by omega⟩, ⟨by omega, by omega⟩⟩ (fun c2 => s_op2 hh hd' hd1 hk1 h3 (by rw [if_pos (by omega)])) (fun c2 => gv_cb ⟨⟨by omega, by omega⟩, ⟨by omega, by omega⟩⟩ (fun c3 => s_op2 hh hd' hd1 hk1 h3 (by rw [if_neg (by omega)])) (fun c3 => s_op2 hh hd' hd1 hk1 h3 (by rw [if_pos (by omega)]))))
/-- a sign: too much, or held -/
theorem s_opr {k : Int} {e : Nat} (h : cI ν0 ν pl S) (hE : pE S (S 1 0) e) (he : k = 9 ∨ e = 1) (hk1 : hk k) (h3 : k ≠ 3) : gv (g_X5_takeOperator k) T ν (fun r ν' => (S 1 0 < 64 ∧ r = 0 ∧ cI ν0 ν' pl (opr S k)) ∨ (¬ S 1 0 < 64 ∧ r = 2 ∧ ν' = ν)) := by
  have hkr : 0 ≤ k ∧ k ≤ 30 := by unfold hk at hk1; omega
  have h64 := pE_64 hE
  unfold g_X5_takeOperator
  refine gv_get ?_
  rw [h.r1]
  refine gv_cb ⟨⟨by omega, by omega⟩, ⟨by omega, by omega⟩⟩ (fun c => gv_get (gv_put ?_)) (fun c => gv_ret (Or.inr ⟨c, rfl, rfl⟩))
  rw [h.r1]
  have h1 := h.u1 0 (S 1 0 + 1)
  generalize gup ν (-804) 0 (S 1 0 + 1) = ν1 at h1 ⊢
  have hE1 : pE (gup S 1 0 (S 1 0 + 1)) (S 1 0) e := by
    obtain ⟨h', o, s, e1, e2, e3, hE⟩ := hE
    refine ⟨h', o, s, ?_, ?_, ?_, ?_⟩ <;> simp (disch := decide) only [gup_ne]
    · exact e1
    · exact e2
    · exact e3
    · exact hE
  have hlt : ∀ S' : gN, pE S' (S 1 0) e → 0 ≤ S' 3 0 ∧ S' 3 0 < 72 := fun S' hS => by
    obtain ⟨h', o, s, e1, e2, e3, hE⟩ := hS
    have := np_pr (S' 9) h'
    have := hE.2.2.1
    have := hE.2.2.2.2.1
    omega
  refine gv_cb ⟨⟨by omega, by omega⟩, ⟨by omega, by omega⟩⟩ (fun c9 => ?_) (fun c9 => ?_)
  · refine (s_op3 h1 (hlt _ hE1) rfl (by rw [gup_ne (by decide)]; omega) hk1 h3).mono (fun r ν' hh => Or.inl ⟨c, hh.1, ?_⟩)
    unfold opr op1; rw [if_pos c9]
    have := hh.2
    rw [gup_ne (by decide)] at this
    exact this
  · have e1 : e = 1 := by omega
    subst e1
    have hb1 : 1 ≤ bnd k := (hk_bnd hk1).2.1 h3
    have hb6 := (hk_bnd hk1).2.2.2.2
    refine gv_rd (d_X9_bindingOf (by omega)) (gv_call (s_rel h1 hE1 ⟨hb1, hb6⟩) (fun _ ν2 h2 => ?_))
    have hr := rel_ind (x := bnd k) (fun S' => pE S' (S 1 0) 1 ∧ S' 4 0 = S 4 0) (fun S' hS c1 c2 => ⟨pE_pop hS.1 c1 (by omega), by rw [pop1_r (by decide) (by decide) (by decide)]; exact hS.2⟩) _ _ rfl ⟨hE1, by rw [gup_ne (by decide)]⟩
    refine (s_op3 h2 (hlt _ hr.1.1) hr.1.2 (by omega) hk1 h3).mono (fun r ν' hh => Or.inl ⟨c, hh.1, ?_⟩)
    unfold opr op1; rw [if_neg c9]; exact hh.2
end
