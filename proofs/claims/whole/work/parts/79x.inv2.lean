/-! PLAN: each token keeps it -/
section
variable {S : gN} {m : Int}
theorem pC_rows {S S' : gN} (h : pC S) (hL : pL S) (hs : S' 14 0 = S 14 0) (h6 : S' 6 0 = S 6 0) (h7 : S' 7 0 = S 7 0) (h8 : ∀ j : Int, j < S 14 0 → S' 8 j = S 8 j) (h11 : S' 11 = S 11) (h12 : S' 12 = S 12) (h13 : S' 13 = S 13) : pC S' := by
  unfold pC pN at h ⊢
  rw [hs, h6, h7, h11, h12, h13]
  rcases h with g | g
  · exact Or.inl g
  · exact Or.inr ⟨g.1, g.2.1, coO_congr g.2.2.1 (fun j _ c => h8 j (by omega)), g.2.2.2⟩
theorem pI_opn (hL : pL S) (h : p2 S) (hd : S 4 0 < 8) : pI (opn S) := by
  obtain ⟨h0, h7, ⟨⟨h', o, s, e1, e2, e3, hE⟩, hC⟩, h5, hn, hc⟩ := h
  have r : ∀ r : Int, r ≠ 3 → r ≠ 4 → r ≠ 10 → r ≠ 5 → r ≠ 9 → opn S r = S r := fun r a1 a2 a3 a4 a5 => by
    unfold opn hld; rw [gup_ne a1, gup_ne a5, gup_ne a4, gup_ne a3, gup_ne a2]
  have q3 : opn S 3 0 = ((h' + 1 : Nat) : Int) := by unfold opn hld; rw [gup_at]; simp (disch := decide) only [gup_ne]; omega
  have q4 : opn S 4 0 = S 4 0 + 1 := by unfold opn hld; simp (disch := decide) only [gup_ne, gup_at]
  have q5 : opn S 5 0 = 1 := by unfold opn hld; simp (disch := decide) only [gup_ne, gup_at]
  have q9 : ∀ j : Int, opn S 9 j = if j = h' then 3 else S 9 j := fun j => by unfold opn hld; rw [gup_ne (by decide), gup_same]; simp (disch := decide) only [gup_ne]; rw [e1]
  have q10 : ∀ j : Int, opn S 10 j = if j = S 4 0 + 1 then 0 else S 10 j := fun j => by unfold opn hld; rw [gup_ne (by decide), gup_ne (by decide), gup_ne (by decide), gup_same, gup_ne (by decide)]
  have e3' : (S 3 0).toNat = h' := by omega
  rw [e3'] at hC
  have hx := eI_open (H' := opn S 9) (C' := opn S 10) hE hd (fun j hj => by rw [q9, if_neg (by omega)]) (by rw [q9, if_pos rfl]) hC (by rw [q10, if_pos rfl]) (fun j hj => by rw [q10, if_neg hj])
  have r1 := r 1 (by decide) (by decide) (by decide) (by decide) (by decide)
  have r2 := r 2 (by decide) (by decide) (by decide) (by decide) (by decide)
  have r6 := r 6 (by decide) (by decide) (by decide) (by decide) (by decide)
  have r7 := r 7 (by decide) (by decide) (by decide) (by decide) (by decide)
  have r8 := r 8 (by decide) (by decide) (by decide) (by decide) (by decide)
  have r11 := r 11 (by decide) (by decide) (by decide) (by decide) (by decide)
  have r12 := r 12 (by decide) (by decide) (by decide) (by decide) (by decide)
  have r13 := r 13 (by decide) (by decide) (by decide) (by decide) (by decide)
  have r14 := r 14 (by decide) (by decide) (by decide) (by decide) (by decide)
  have r0 := r 0 (by decide) (by decide) (by decide) (by decide) (by decide)
  refine ⟨pL_rows hL (by rw [r2]) (by rw [r7]) r8 (fun _ _ => by rw [r11]) (fun _ _ => by rw [r12]) r13, Or.inr (Or.inr (Or.inl ⟨by rw [r0]; exact h0, by rw [r7]; exact h7, ⟨⟨h' + 1, o, s, q3, by rw [r2]; exact e2, by rw [r14]; exact e3, ?_⟩, ?_⟩, Or.inr q5, fun _ g hg => ?_, pC_rows hc hL (by rw [r14]) (by rw [r6]) (by rw [r7]) (fun _ _ => by rw [r8]) r11 r12 r13⟩))⟩
  · rw [r1, r8, q4]; exact hx.1
  · rw [q4, q3]; exact hx.2
  · rw [q3] at hg
    rw [q9, if_pos (by omega)]; decide
theorem pI_opd {k v : Int} (hL : pL S) (h : p2 S) (hm : S 1 0 < 64) (hk : k = 2 ∨ (12 ≤ k ∧ k ≤ 20)) (hv : 0 ≤ v ∧ v < 1000) : pI (opd S k v) := by
  obtain ⟨h0, h7, ⟨⟨h', o, s, e1, e2, e3, hE⟩, hC⟩, h5, hn, hc⟩ := h
  have r : ∀ r : Int, r ≠ 0 → r ≠ 1 → r ≠ 2 → r ≠ 8 → opd S k v r = S r := fun r a1 a2 a3 a4 => by
    unfold opd wrt; rw [gup_ne a1, gup_ne a3, gup_ne a4, gup_ne a2]
  have q0 : opd S k v 0 0 = 3 := by unfold opd; rw [gup_at]
  have q1 : opd S k v 1 0 = S 1 0 + 1 := by unfold opd wrt; simp (disch := decide) only [gup_ne, gup_at]
  have q2 : opd S k v 2 0 = S 2 0 + 1 := by unfold opd wrt; simp (disch := decide) only [gup_ne, gup_at]
  have q8 : ∀ j : Int, opd S k v 8 j = if j = S 2 0 then (if k = 2 then v else 1000 + k) else S 8 j := fun j => by unfold opd wrt; rw [gup_ne (by decide), gup_ne (by decide), gup_same]; simp (disch := decide) only [gup_ne]
  have r3 := r 3 (by decide) (by decide) (by decide) (by decide)
  have r4 := r 4 (by decide) (by decide) (by decide) (by decide)
  have r6 := r 6 (by decide) (by decide) (by decide) (by decide)
  have r7 := r 7 (by decide) (by decide) (by decide) (by decide)
  have r9 := r 9 (by decide) (by decide) (by decide) (by decide)
  have r10 := r 10 (by decide) (by decide) (by decide) (by decide)
  have r11 := r 11 (by decide) (by decide) (by decide) (by decide)
  have r12 := r 12 (by decide) (by decide) (by decide) (by decide)
  have r13 := r 13 (by decide) (by decide) (by decide) (by decide)
  have r14 := r 14 (by decide) (by decide) (by decide) (by decide)
  have hs : s ≤ o := hE.2.2.2.1.1
  have hw : wdO (if k = 2 then v else 1000 + k) ∧ need (if k = 2 then v else 1000 + k) = 0 := by
    unfold wdO need
    by_cases c : k = 2
    · rw [if_pos c, if_pos (by omega)]; exact ⟨by omega, rfl⟩
    · rw [if_neg c, if_pos (by omega)]; exact ⟨by omega, rfl⟩
  have hx := eI_leaf (W' := opd S k v 8) (w := if k = 2 then v else 1000 + k) hE hm (fun j hj => by rw [q8, if_neg (by omega)]) (by rw [q8, if_pos (by omega)]) hw.2
  refine ⟨pL_app hL (by rw [r7]) r11 r12 r13 (by omega) (fun j hj => by rw [q8, if_neg (by omega)]) ?_ (fun j a1 a2 => by rw [q8, if_pos (by omega)]; exact hw.1), Or.inr (Or.inr (Or.inr ⟨q0, by rw [r7]; exact h7, ⟨⟨h', o + 1, s, by rw [r3]; exact e1, by rw [q2]; omega, by rw [r14]; exact e3, ?_⟩, ?_⟩, pC_rows hc hL (by rw [r14]) (by rw [r6]) (by rw [r7]) (fun j hj => by rw [q8, if_neg (by omega)]) r11 r12 r13⟩))⟩
  · have := hx.2.2.1; omega
  · rw [q1, r9, r10, r4]; exact hx
  · rw [r10, r4, r9, r3]; exact hC
theorem op2_c {k d : Int} (hk1 : hk k) (h3 : k ≠ 3) : (bnd k = 4 ∧ op2 S k d = gup (gup (gup S 5 0 0) 10 d 1) 0 0 2) ∨ (bnd k ≤ 3 ∧ op2 S k d = gup (gup (gup S 5 0 1) 10 d 0) 0 0 2) ∨ (5 ≤ bnd k ∧ op2 S k d = gup (gup S 5 0 0) 0 0 2) := by
  have hb := hk_bnd hk1
  unfold op2
  by_cases c : 21 ≤ k ∧ k ≤ 26
  · rw [if_pos c]; exact Or.inl ⟨hb.2.2.2.1.mp c, rfl⟩
  rw [if_neg c]
  by_cases c2 : k = 9 ∨ k = 10 ∨ k = 11
  · rw [if_pos c2]
    refine Or.inr (Or.inl ⟨?_, rfl⟩)
    rcases c2 with e | e | e <;> subst e <;> decide
  · rw [if_neg c2]
    refine Or.inr (Or.inr ⟨?_, rfl⟩)
    unfold hk at hk1
    unfold bnd
    rw [if_neg (by omega), if_neg (by omega), if_neg (by omega), if_neg c]
    split
    · omega
    · rw [if_pos (by omega)]; omega
/-- a sign, once what binds as much is let go -/
theorem pI_op2 {k d : Int} {e : Nat} (hL : pL S) (h7 : S 7 0 < 12) (hE : pE S m e) (he : e = if k = 9 then 0 else 1) (h1 : S 1 0 = m + 1) (hm : m < 64) (hd : d = S 4 0) (hk1 : hk k) (h3 : k ≠ 3) (hr : ∀ g : Nat, S 3 0 = g + 1 → ris (S 9 g) k) (hcv : 5 ≤ bnd k → S 10 (S 4 0) = cvr (S 9) (S 3 0).toNat) (hlow : bnd k ≤ 3 → ∀ g : Nat, S 3 0 = g + 1 → bnd (S 9 g) ≤ 3) (hc : pC S) : pI (op2 (hld S k) k d) := by
  obtain ⟨h', o, s, e1, e2, e3, hE⟩ := hE
  have hb := hk_bnd hk1
  have hcs := op2_c (S := hld S k) (d := d) hk1 h3
  have r : ∀ r : Int, r ≠ 3 → r ≠ 9 → r ≠ 5 → r ≠ 10 → r ≠ 0 → op2 (hld S k) k d r = S r := fun r a1 a2 a3 a4 a5 => by
    rcases hcs with ⟨_, g⟩ | ⟨_, g⟩ | ⟨_, g⟩ <;> rw [g]
    · unfold hld; rw [gup_ne a5, gup_ne a4, gup_ne a3, gup_ne a1, gup_ne a2]
    · unfold hld; rw [gup_ne a5, gup_ne a4, gup_ne a3, gup_ne a1, gup_ne a2]
    · unfold hld; rw [gup_ne a5, gup_ne a3, gup_ne a1, gup_ne a2]
  have q0 : op2 (hld S k) k d 0 0 = 2 := by unfold op2; rw [gup_at]
  have q3 : op2 (hld S k) k d 3 0 = ((h' + 1 : Nat) : Int) := by
    rcases hcs with ⟨_, g⟩ | ⟨_, g⟩ | ⟨_, g⟩ <;> rw [g] <;> unfold hld <;> simp (disch := decide) only [gup_ne, gup_at] <;> omega
  have q9 : ∀ j : Int, op2 (hld S k) k d 9 j = if j = h' then k else S 9 j := fun j => by
    rcases hcs with ⟨_, g⟩ | ⟨_, g⟩ | ⟨_, g⟩ <;> rw [g] <;> unfold hld <;> simp (disch := decide) only [gup_ne, gup_same] <;> rw [e1]
  have q10 : ∀ j : Int, op2 (hld S k) k d 10 j = if j = d then (if bnd k = 4 then 1 else if bnd k ≤ 3 then 0 else S 10 j) else S 10 j := fun j => by
    rcases hcs with ⟨c, g⟩ | ⟨c, g⟩ | ⟨c, g⟩ <;> rw [g] <;> unfold hld <;> simp (disch := decide) only [gup_ne, gup_same]
    · rw [if_pos c]
    · rw [if_neg (show ¬ bnd k = 4 by omega), if_pos c]
    · rw [if_neg (show ¬ bnd k = 4 by omega), if_neg (show ¬ bnd k ≤ 3 by omega)]; split <;> rfl
  have q5 : (op2 (hld S k) k d 5 0 = 0 ∨ op2 (hld S k) k d 5 0 = 1) ∧ (op2 (hld S k) k d 5 0 = 1 → bnd k ≤ 3) := by
    rcases hcs with ⟨c, g⟩ | ⟨c, g⟩ | ⟨c, g⟩
    · have : op2 (hld S k) k d 5 0 = 0 := by rw [g, gup_ne (by decide), gup_ne (by decide), gup_at]
      omega
    · have : op2 (hld S k) k d 5 0 = 1 := by rw [g, gup_ne (by decide), gup_ne (by decide), gup_at]
      omega
    · have : op2 (hld S k) k d 5 0 = 0 := by rw [g, gup_ne (by decide), gup_at]
      omega
  have r1 := r 1 (by decide) (by decide) (by decide) (by decide) (by decide)
  have r2 := r 2 (by decide) (by decide) (by decide) (by decide) (by decide)
  have r4 := r 4 (by decide) (by decide) (by decide) (by decide) (by decide)
  have r6 := r 6 (by decide) (by decide) (by decide) (by decide) (by decide)
  have r7 := r 7 (by decide) (by decide) (by decide) (by decide) (by decide)
  have r8 := r 8 (by decide) (by decide) (by decide) (by decide) (by decide)
  have r11 := r 11 (by decide) (by decide) (by decide) (by decide) (by decide)
  have r12 := r 12 (by decide) (by decide) (by decide) (by decide) (by decide)
  have r13 := r 13 (by decide) (by decide) (by decide) (by decide) (by decide)
  have r14 := r 14 (by decide) (by decide) (by decide) (by decide) (by decide)
  have hx := eI_op (H' := op2 (hld S k) k d 9) (C' := op2 (hld S k) k d 10) hE he hm (fun j hj => by rw [q9, if_neg (by omega)]) (by rw [q9, if_pos rfl]) hk1 h3 (fun g hg => hr g (by omega)) (fun j hj => by rw [q10, if_neg (by omega)])
  have e3' : (S 3 0).toNat = h' := by omega
  refine ⟨pL_rows hL (by rw [r2]) (by rw [r7]) r8 (fun _ _ => by rw [r11]) (fun _ _ => by rw [r12]) r13, Or.inr (Or.inr (Or.inl ⟨q0, by rw [r7]; exact h7, ⟨⟨h' + 1, o, s, q3, by rw [r2]; exact e2, by rw [r14]; exact e3, ?_⟩, ?_⟩, q5.1, fun c g hg => ?_, pC_rows hc hL (by rw [r14]) (by rw [r6]) (by rw [r7]) (fun _ _ => by rw [r8]) r11 r12 r13⟩))⟩
  · rw [r1, r8, r4, h1]; exact hx
  · rw [r4, q3, q10, if_pos hd.symm, show ((h' + 1 : Nat) : Int).toNat = h' + 1 by omega]
    show _ = if op2 (hld S k) k d 9 h' = 3 then 0 else if bnd (op2 (hld S k) k d 9 h') = 4 then 1 else cvr (op2 (hld S k) k d 9) h'
    rw [q9, if_pos rfl, if_neg h3, (cnt_congr h' (fun j hj => by rw [q9, if_neg (by omega)])).2.2.2]
    by_cases c4 : bnd k = 4
    · rw [if_pos c4, if_pos c4]
    · rw [if_neg c4, if_neg c4]
      by_cases c5 : bnd k ≤ 3
      · rw [if_pos c5]
        exact (cv_low h' hE.1 hE.2.1 (fun g hg => hlow c5 g (by omega))).symm
      · rw [if_neg c5, hcv (by omega), e3']
  · rw [q3] at hg
    rw [q9, if_pos (by omega)]; exact q5.2 c
theorem pE_top (h : pE S m 1) {g : Nat} (hg : S 3 0 = g + 1) : hk (S 9 g) ∧ ∀ f : Nat, g = f + 1 → ris (S 9 f) (S 9 g) := by
  obtain ⟨h', o, s, e1, e2, e3, hE⟩ := h
  refine ⟨hE.1 g (by omega), fun f hf => ?_⟩
  have := hE.2.1 f (by omega)
  rw [hf]; exact this
theorem pI_opr9 (hL : pL S) (h : p2 S) (h5 : ¬ S 5 0 = 0) (hm : S 1 0 < 64) : pI (opr S 9) := by
  obtain ⟨h0, h7, ⟨⟨h', o, s, e1, e2, e3, hE⟩, hC⟩, h5', hn, hc⟩ := h
  unfold opr op1
  rw [if_pos rfl]
  have hn' := hn (by omega)
  refine pI_op2 (m := S 1 0) (e := 0) (pL_rows hL ?_ ?_ ?_ (fun i hi => ?_) (fun i hi => ?_) ?_) ?_ ⟨h', o, s, ?_, ?_, ?_, ?_⟩ rfl ?_ hm ?_ (by unfold hk; omega) (by decide) (fun g hg => ?_) (fun c => absurd c (by decide)) (fun _ g hg => ?_) (pC_rows hc hL ?_ ?_ ?_ (fun _ _ => ?_) ?_ ?_ ?_)
  all_goals first | rw [gup_ne (by decide)] | skip
  · exact h7
  · exact e1
  · exact e2
  · exact e3
  · simp (disch := decide) only [gup_ne]; exact hE
  · rw [gup_at]
  · rw [gup_ne (by decide)] at hg; exact Or.inr (Or.inr ⟨rfl, hn' g hg⟩)
  · rw [gup_ne (by decide)] at hg; exact hn' g hg
theorem agr_pC {S' : gN} (hc : pC S) (hL : pL S) (ha : agr S S') (hs : S 14 0 ≤ S 2 0) : pC S' := by
  have r := ha.1
  refine pC_rows hc hL ?_ ?_ ?_ (fun j hj => ha.2.2 j (by omega)) ?_ ?_ ?_ <;> rw [r _ (by decide) (by decide) (by decide)]
theorem pE_s (h : pE S m 1) : 0 ≤ S 14 0 ∧ S 14 0 ≤ S 2 0 := by
  obtain ⟨h', o, s, e1, e2, e3, hE⟩ := h
  have := hE.2.2.2.1.1
  omega
theorem pI_opr {k : Int} (hL : pL S) (h : p3 S) (hm : S 1 0 < 64) (hk1 : k = 10 ∨ k = 11 ∨ (21 ≤ k ∧ k ≤ 30)) (hcmp : 21 ≤ k ∧ k ≤ 26 → S 10 (S 4 0) = 0) : pI (opr S k) := by
  obtain ⟨h0, h7, ⟨hE, hC⟩, hc⟩ := h
  have hk2 : hk k := by unfold hk; omega
  have hkb := hk_bnd hk2
  unfold opr op1
  rw [if_neg (by omega)]
  generalize hS1 : gup S 1 0 (S 1 0 + 1) = S1
  have r1 : ∀ r : Int, r ≠ 1 → S1 r = S r := fun r hr => by rw [← hS1]; exact gup_ne hr
  have hE1 : pE S1 (S 1 0) 1 := by
    obtain ⟨h', o, s, e1, e2, e3, hE⟩ := hE
    exact ⟨h', o, s, by rw [r1 _ (by decide)]; exact e1, by rw [r1 _ (by decide)]; exact e2, by rw [r1 _ (by decide)]; exact e3, by rw [r1 9 (by decide), r1 10 (by decide), r1 8 (by decide), r1 4 (by decide)]; exact hE⟩
  have hL1 : pL S1 := pL_rows hL (by rw [r1 _ (by decide)]) (by rw [r1 _ (by decide)]) (r1 _ (by decide)) (fun _ _ => by rw [r1 _ (by decide)]) (fun _ _ => by rw [r1 _ (by decide)]) (r1 _ (by decide))
  have hc1 : pC S1 := pC_rows hc hL (by rw [r1 _ (by decide)]) (by rw [r1 _ (by decide)]) (by rw [r1 _ (by decide)]) (fun _ _ => by rw [r1 _ (by decide)]) (r1 _ (by decide)) (r1 _ (by decide)) (r1 _ (by decide))
  have hb1 : 1 ≤ bnd k := hkb.2.1 (by omega)
  obtain ⟨q1, q2, q3, q4, q5⟩ := rel_all hb1 hE1 hL1
  have ss := pE_s hE1
  have q6 := agr_pC hc1 hL1 q1 ss.2
  have e4 : rel S1 (bnd k) 4 0 = S 4 0 := by rw [q1.1 4 (by decide) (by decide) (by decide), r1 4 (by decide)]
  refine pI_op2 (m := S 1 0) (e := 1) q3 ?_ q2 (by rw [if_neg (by omega)]) ?_ hm e4.symm hk2 (by omega) (fun g hg => ?_) (fun c => ?_) (fun c g hg => ?_) q6
  · rw [q1.1 7 (by decide) (by decide) (by decide), r1 7 (by decide)]; exact h7
  · rw [q1.1 1 (by decide) (by decide) (by decide), ← hS1, gup_at]
  · rw [hg, show (g : Int) + 1 - 1 = g by omega] at q5
    exact Or.inr (Or.inl (by omega))
  · rw [q4 c, e4, q1.1 10 (by decide) (by decide) (by decide), r1 10 (by decide), r1 9 (by decide), r1 3 (by decide)]; exact hC
  · rw [hg, show (g : Int) + 1 - 1 = g by omega] at q5
    omega
theorem pI_cls (hL : pL S) (h : p3 S) (hd : ¬ S 4 0 = 0) : pI (cls S) := by
  obtain ⟨h0, h7, ⟨hE, hC⟩, hc⟩ := h
  obtain ⟨q1, q2, q3, q4, q5⟩ := rel_all (x := 1) (by decide) hE hL
  have ss := pE_s hE
  have q6 := agr_pC hc hL q1 ss.2
  obtain ⟨h', o, s, e1, e2, e3, hE'⟩ := q2
  have e4 : rel S 1 4 0 = S 4 0 := by rw [q1.1 4 (by decide) (by decide) (by decide)]
  have hp := hE'.2.2.2.2.1.1
  have hz : h' ≠ 0 := fun e => by
    subst e
    have : pr (rel S 1 9) 0 = 0 := rfl
    omega
  obtain ⟨g, rfl⟩ : ∃ g, h' = g + 1 := ⟨h' - 1, by omega⟩
  have hkk := hE'.1 g (by omega)
  have h3 : rel S 1 9 g = 3 := by
    rw [e1, show ((g + 1 : Nat) : Int) - 1 = g by omega] at q5
    by_cases c : rel S 1 9 g = 3
    · exact c
    · have := (hk_bnd hkk).2.1 c
      omega
  have hx := eI_close hE' h3
  have r : ∀ r : Int, r ≠ 3 → r ≠ 4 → cls S r = rel S 1 r := fun r a1 a2 => by unfold cls; rw [gup_ne a2, gup_ne a1]
  have c3 : cls S 3 0 = g := by unfold cls; rw [gup_ne (by decide), gup_at, e1]; omega
  have c4 : cls S 4 0 = rel S 1 4 0 - 1 := by unfold cls; rw [gup_at, e4]
  have r1 := r 1 (by decide) (by decide)
  have r2 := r 2 (by decide) (by decide)
  have r6 := r 6 (by decide) (by decide)
  have r7 := r 7 (by decide) (by decide)
  have r8 := r 8 (by decide) (by decide)
  have r9 := r 9 (by decide) (by decide)
  have r10 := r 10 (by decide) (by decide)
  have r11 := r 11 (by decide) (by decide)
  have r12 := r 12 (by decide) (by decide)
  have r13 := r 13 (by decide) (by decide)
  have r14 := r 14 (by decide) (by decide)
  have r0 := r 0 (by decide) (by decide)
  refine ⟨pL_rows q3 (by rw [r2]) (by rw [r7]) r8 (fun _ _ => by rw [r11]) (fun _ _ => by rw [r12]) r13, Or.inr (Or.inr (Or.inr ⟨?_, ?_, ⟨⟨g, o, s, c3, by rw [r2]; exact e2, by rw [r14]; exact e3, ?_⟩, ?_⟩, pC_rows q6 q3 (by rw [r14]) (by rw [r6]) (by rw [r7]) (fun _ _ => by rw [r8]) r11 r12 r13⟩))⟩
  · rw [r0, q1.1 0 (by decide) (by decide) (by decide)]; exact h0
  · rw [r7, q1.1 7 (by decide) (by decide) (by decide)]; exact h7
  · rw [r1, q1.1 1 (by decide) (by decide) (by decide), r9, r10, r8, c4]; exact hx.1
  · rw [r10, c4, r9, c3]; exact hx.2
/-- at an expression's end -/
theorem rel_end (hL : pL S) (h : p3 S) (hd : S 4 0 = 0) : pL (rel S 1) ∧ rel S 1 3 0 = 0 ∧ rel S 1 2 0 = S 1 0 ∧ exW (rel S 1 8) (S 14 0) (rel S 1 2 0) ∧ agr S (rel S 1) := by
  obtain ⟨h0, h7, ⟨hE, hC⟩, hc⟩ := h
  obtain ⟨q1, q2, q3, q4, q5⟩ := rel_all (x := 1) (by decide) hE hL
  obtain ⟨h', o, s, e1, e2, e3, hE'⟩ := q2
  have e4 : rel S 1 4 0 = S 4 0 := by rw [q1.1 4 (by decide) (by decide) (by decide)]
  have e14 : rel S 1 14 0 = S 14 0 := by rw [q1.1 14 (by decide) (by decide) (by decide)]
  have hp := hE'.2.2.2.2.1.1
  have hz : h' = 0 := by
    by_cases e : h' = 0
    · exact e
    · obtain ⟨g, rfl⟩ : ∃ g, h' = g + 1 := ⟨h' - 1, by omega⟩
      have hkk := hE'.1 g (by omega)
      rw [e1, show ((g + 1 : Nat) : Int) - 1 = g by omega] at q5
      have h3 : rel S 1 9 g = 3 := by
        by_cases c : rel S 1 9 g = 3
        · exact c
        · have := (hk_bnd hkk).2.1 c
          omega
      have := pr_lt (rel S 1 9) (i := g) (n := g + 1) (by omega) h3
      omega
  subst hz
  obtain ⟨g1, g2, g3, g4, g5, g6⟩ := hE'
  have n0 : np (rel S 1 9) 0 = 0 := rfl
  have b0 : bn (rel S 1 9) 0 = 0 := rfl
  rw [b0] at g4
  have hlen := sn_len (rel S 1 8) s (o - s)
  refine ⟨q3, e1, by omega, ?_, q1⟩
  rw [← e14, e3, e2]
  have e5 : ((o : Int) - s).toNat = o - s := by omega
  unfold exW
  rw [e5]
  exact ⟨by omega, by omega, g4.2.1, by omega⟩
theorem pI_nx {k v : Int} (h : pI S) (hf : fc S k v = 0) (hk1 : 0 ≤ k ∧ k ≤ 30) (hv : 0 ≤ v ∧ v ≤ 1000) : pI (nx S k v) := by
  obtain ⟨hL, h⟩ := h
  unfold fc at hf
  unfold nx
  rcases h with h | h | h | h
  · rw [if_pos h.1] at hf ⊢
    by_cases c0 : k = 0
    · rw [if_pos c0]; exact ⟨hL, Or.inl h⟩
    rw [if_neg c0] at hf ⊢
    by_cases c6 : k = 6 ∨ k = 7 ∨ k = 8
    · rw [if_pos c6] at hf
      have h7 : S 7 0 < 12 := by
        by_cases c : S 7 0 < 12
        · exact c
        · rw [if_neg c] at hf; omega
      by_cases c : k = 6
      · rw [if_pos c]
        refine pI_stE (pL_rows hL ?_ ?_ ?_ (fun i hi => ?_) (fun i hi => ?_) ?_) ?_ ?_ (Or.inl ⟨?_, ?_⟩)
        all_goals simp (disch := decide) only [gup_ne, gup_at]
        · exact h7
        · exact h.2.1
        · exact h.2.2
      · rw [if_neg c]
        exact pI_stD hL h7 h.2.1 (Or.inl ⟨h.2.2.symm, by have := hL.2.1; have := h.2.2; omega⟩)
    · rw [if_neg c6] at hf; omega
  · rw [if_neg (by have := h.1; omega), if_pos h.1] at hf ⊢
    by_cases c2 : k = 2
    · rw [if_pos c2] at hf
      have hv3 : v < 3 := by
        by_cases c : v < 3
        · exact c
        · rw [if_neg c] at hf; omega
      obtain ⟨g0, g7, g1, g6, g12, gN⟩ := h
      refine pI_stE (pL_rows hL ?_ ?_ ?_ (fun i hi => ?_) (fun i hi => ?_) ?_) ?_ ?_ (Or.inr ⟨?_, ?_, ?_, ?_⟩)
      · rw [gup_ne (by decide)]
      · rw [gup_ne (by decide)]
      · rw [gup_ne (by decide)]
      · rw [gup_same, if_neg (by omega)]
      · rw [gup_ne (by decide)]
      · rw [gup_ne (by decide)]
      · rw [gup_ne (by decide)]; exact g7
      · rw [gup_ne (by decide), gup_ne (by decide)]; exact g1
      · rw [gup_ne (by decide)]; exact g6
      · rw [gup_ne (by decide), gup_ne (by decide), gup_ne (by decide)]; exact g12.symm
      · unfold pN; simp (disch := decide) only [gup_ne]; exact gN
      · rw [gup_ne (a := 11) (b := 7) (by decide), gup_at]; omega
    · rw [if_neg c2] at hf; omega
  · rw [if_neg (by have := h.1; omega), if_neg (by have := h.1; omega), if_pos h.1] at hf ⊢
    by_cases c3 : k = 3
    · rw [if_pos c3] at hf ⊢
      refine pI_opn hL h ?_
      by_cases c : S 4 0 < 8
      · exact c
      · rw [if_neg c] at hf; omega
    rw [if_neg c3] at hf ⊢
    by_cases c9 : k = 9
    · rw [if_pos c9] at hf ⊢
      by_cases c5 : S 5 0 = 0
      · rw [if_pos c5] at hf; omega
      rw [if_neg c5] at hf
      refine pI_opr9 hL h c5 ?_
      by_cases c : S 1 0 < 64
      · exact c
      · rw [if_neg c] at hf; omega
    rw [if_neg c9] at hf ⊢
    by_cases c2 : k = 2 ∨ (12 ≤ k ∧ k ≤ 20)
    · rw [if_pos c2] at hf
      by_cases c : S 1 0 < 64 ∧ v < 1000
      · exact pI_opd hL h c.1 c2 ⟨hv.1, c.2⟩
      · rw [if_neg c] at hf; omega
    · rw [if_neg c2] at hf; omega
  · rw [if_neg (by have := h.1; omega), if_neg (by have := h.1; omega), if_neg (by have := h.1; omega)] at hf ⊢
    by_cases c4 : k = 4
    · rw [if_pos c4] at hf ⊢
      refine pI_cls hL h (fun c => ?_)
      rw [if_pos c] at hf; omega
    rw [if_neg c4] at hf ⊢
    by_cases cc : (21 ≤ k ∧ k ≤ 26) ∧ ¬ S 10 (S 4 0) = 0
    · rw [if_pos cc] at hf; omega
    rw [if_neg cc] at hf
    by_cases co : k = 10 ∨ k = 11 ∨ (21 ≤ k ∧ k ≤ 30)
    · rw [if_pos co] at hf ⊢
      refine pI_opr hL h ?_ co (fun g => ?_)
      · by_cases c : S 1 0 < 64
        · exact c
        · rw [if_neg c] at hf; omega
      · by_cases c : S 10 (S 4 0) = 0
        · exact c
        · exact absurd ⟨g, c⟩ cc
    rw [if_neg co] at hf ⊢
    by_cases cd : 0 < S 4 0
    · rw [if_pos cd] at hf; omega
    rw [if_neg cd] at hf
    have hd : S 4 0 = 0 := by have := pE_64 h.2.2.1.1; omega
    obtain ⟨q1, q2, q3, q4, q5⟩ := rel_end hL h hd
    obtain ⟨h0, h7, hX, hc⟩ := h
    have e7 : rel S 1 7 = S 7 := q5.1 7 (by decide) (by decide) (by decide)
    have e13 : rel S 1 13 = S 13 := q5.1 13 (by decide) (by decide) (by decide)
    have e1 : rel S 1 1 = S 1 := q5.1 1 (by decide) (by decide) (by decide)
    have ss := pE_s hX.1
    by_cases c6 : ¬ S 6 0 = 0
    · rw [if_pos c6] at hf ⊢
      refine pI_stD q1 (by rw [e7]; exact h7) (by rw [e1]; exact q3) (Or.inr ?_)
      rw [e13, e7]
      rcases hc with g | g
      · rw [← g.2]; exact q4
      · exact absurd g.1 c6
    · rw [if_neg c6] at hf ⊢
      rcases hc with g | g
      · omega
      obtain ⟨g6, g14, gN, g11⟩ := g
      have e12 : rel S 1 12 = S 12 := q5.1 12 (by decide) (by decide) (by decide)
      have e11 : rel S 1 11 = S 11 := q5.1 11 (by decide) (by decide) (by decide)
      obtain ⟨l1, l2, l3, l4⟩ := q1
      have t0 : eol S 0 0 = 0 := by unfold eol; rw [gup_at]
      have t1 : eol S 1 0 = S 1 0 := by unfold eol; simp (disch := decide) only [gup_ne]; rw [e1]
      have t2 : eol S 2 0 = rel S 1 2 0 := by unfold eol; simp (disch := decide) only [gup_ne]
      have t7 : eol S 7 0 = S 7 0 + 1 := by unfold eol; simp (disch := decide) only [gup_ne, gup_at]
      have t8 : eol S 8 = rel S 1 8 := by unfold eol; simp (disch := decide) only [gup_ne]
      have t11 : eol S 11 = S 11 := by unfold eol; simp (disch := decide) only [gup_ne]; rw [e11]
      have t12 : eol S 12 = S 12 := by unfold eol; simp (disch := decide) only [gup_ne]; rw [e12]
      have t13 : ∀ j : Int, eol S 13 j = if j = S 7 0 then rel S 1 2 0 else S 13 j := fun j => by unfold eol; simp (disch := decide) only [gup_ne, gup_same]; rw [e13]
      have l7 := hL.1
      refine ⟨⟨by rw [t7]; omega, by rw [t2]; exact l2, by rw [t2, t8]; exact l3, fun i a1 a2 => ?_⟩, Or.inl ⟨t0, by rw [t2, t1]; exact q3, ?_⟩⟩
      · rw [t7] at a2
        unfold lnO
        have ecf : cf (eol S 13) i = cf (S 13) i := by
          unfold cf
          split
          · rfl
          · rw [t13, if_neg (by omega)]
        rw [t2, t8, t11, t12, t13, ecf]
        by_cases c : i = S 7 0
        · rw [if_pos c, c]
          refine ⟨?_, ?_, g11, Int.le_refl _⟩
          · unfold pN at gN
            exact coO_congr gN (fun j _ b => q5.2.2 j (by omega))
          · rw [← g14]; exact q4
        · rw [if_neg c]
          have := l4 i a1 (by rw [e7]; omega)
          unfold lnO at this
          rw [e11, e12, e13] at this
          exact this
      · unfold cf
        rw [t7, if_neg (by omega), t13, if_pos (by omega), t2]
end
