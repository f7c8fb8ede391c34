/-! PLAN: a turn of the reference -/
def wSm : List Int := [76, 77, 78, 84, 85, -6911, -6912, -6914, -6915, -6916, -6917, -6922, -6933, -6934, -6935, -6936, -6937, -6938]
def rM (τ S : gN) : Prop := rL τ S ∧ rE τ S ∧ ((S 0 0 = 2 ∧ τ (-6937) 0 = 1 ∧ τ (-6938) 0 = S 5 0) ∨ (S 0 0 = 3 ∧ τ (-6937) 0 = 0))
def tnQ (τ : gN) (b : Int → Int) (n p : Int) (S : gN) (r : Int) (τ' : gN) : Prop := gfr wSm τ τ' ∧ lo3 τ τ' ∧ ((r = 0 ∧ ¬ fc S (sc b n p).1 (sc b n p).2.1 = 0 ∧ τ' (-6911) 0 = fc S (sc b n p).1 (sc b n p).2.1 ∧ τ' (-6912) 0 = (sc b n p).2.2.1) ∨ (r = 1 ∧ fc S (sc b n p).1 (sc b n p).2.1 = 0 ∧ hT τ' b n (sc b n p).2.2.2 ∧ rM τ' (nx S (sc b n p).1 (sc b n p).2.1)))
section
variable {T : gT} {τ τ1 S : gN} {b : Int → Int} {n p m : Int}
theorem rL_rows {S S' : gN} (h : rL τ S) (h1 : S' 1 0 = S 1 0) (h2 : S' 2 0 = S 2 0) (h7 : S' 7 0 = S 7 0) (h8 : S' 8 = S 8) (h11 : S' 11 = S 11) (h12 : S' 12 = S 12) (h13 : S' 13 = S 13) : rL τ S' := by
  unfold rL lnR at h ⊢
  rw [h1, h2, h7, h8, h11, h12, h13]; exact h
theorem tn_bad {W : List Int} {c : Int} {τ' : gN} (hf : gfr W τ τ1) (hW : ∀ x ∈ W, x ∈ wSm) (hlo : lo3 τ τ1) (h17 : τ1 (-6917) 0 = (sc b n p).2.2.1) (hw : τ' (-6911) 0 = c ∧ τ' (-6912) 0 = τ1 (-6917) 0 ∧ gfr [-6911, -6912] τ1 τ') (e : fc S (sc b n p).1 (sc b n p).2.1 = c) (hc : ¬ c = 0) : tnQ τ b n p S 0 τ' := by
  obtain ⟨w1, w2, w3⟩ := hw
  exact ⟨(hf.mono hW).trans (w3.mono (by decide)), hlo.trans (w3.lo3 (by decide)), Or.inl ⟨rfl, by rw [e]; exact hc, by rw [e]; exact w1, by rw [w2]; exact h17⟩⟩
theorem tn_wrong {W : List Int} {c : Int} (hf : gfr W τ τ1) (hW : ∀ x ∈ W, x ∈ wSm) (hlo : lo3 τ τ1) (h17 : τ1 (-6917) 0 = (sc b n p).2.2.1) (e : fc S (sc b n p).1 (sc b n p).2.1 = c) (hc : ¬ c = 0) : gv (gbd (g_X12_wrong c) (fun v => gck ((v = 0) ∨ (v = 1)) (gret v))) T τ1 (tnQ τ b n p S) := by
  refine gv_call (s_wrong c) (fun r τ' hh => gv_ck (Or.inl hh.1) (gv_ret ?_))
  rw [hh.1]
  exact tn_bad hf hW hlo h17 hh.2 e hc
/-- the end of a good turn: the next token -/
theorem tn_ok {W : List Int} {Z : gN} (hf : gfr W τ τ1) (hW : ∀ x ∈ W, x ∈ wSm) (hlo : lo3 τ τ1) (hT1 : hT τ1 b n p) (e : fc S (sc b n p).1 (sc b n p).2.1 = 0) (en : nx S (sc b n p).1 (sc b n p).2.1 = Z) (hM : rM τ1 Z) : gv (gbd g_X12_take (fun _ => gret (1 : Int))) T τ1 (tnQ τ b n p S) := by
  refine gv_call (s_tk hT1) (fun _ τ' hh => gv_ret ⟨(hf.mono hW).trans (hh.1.mono (by decide)), hlo.trans (hh.1.lo3 (by decide)), Or.inr ⟨rfl, e, hh.2, ?_⟩⟩)
  rw [en]
  obtain ⟨m1, m2, m3⟩ := hM
  refine ⟨m1.fr hh.1 (by decide), m2.fr hh.1 (by decide), ?_⟩
  rw [hh.1 (-6937) (by decide), hh.1 (-6938) (by decide)]; exact m3
theorem op2_rows {k d : Int} (hk1 : hk k) (h3 : k ≠ 3) : (∀ r : Int, r ≠ 3 → r ≠ 9 → r ≠ 5 → r ≠ 10 → r ≠ 0 → op2 (hld S k) k d r = S r) ∧ op2 (hld S k) k d 0 0 = 2 ∧ op2 (hld S k) k d 3 0 = S 3 0 + 1 ∧ (∀ j : Int, op2 (hld S k) k d 9 j = if j = S 3 0 then k else S 9 j) ∧ op2 (hld S k) k d 5 0 = (if bnd k ≤ 3 then 1 else 0) := by
  have hcs := op2_c (S := hld S k) (d := d) hk1 h3
  refine ⟨fun r a1 a2 a3 a4 a5 => ?_, by unfold op2; rw [gup_at], ?_, fun j => ?_, ?_⟩
  · rcases hcs with ⟨_, g⟩ | ⟨_, g⟩ | ⟨_, g⟩ <;> rw [g]
    · unfold hld; rw [gup_ne a5, gup_ne a4, gup_ne a3, gup_ne a1, gup_ne a2]
    · unfold hld; rw [gup_ne a5, gup_ne a4, gup_ne a3, gup_ne a1, gup_ne a2]
    · unfold hld; rw [gup_ne a5, gup_ne a3, gup_ne a1, gup_ne a2]
  · rcases hcs with ⟨_, g⟩ | ⟨_, g⟩ | ⟨_, g⟩ <;> rw [g] <;> unfold hld <;> simp (disch := decide) only [gup_ne, gup_at]
  · rcases hcs with ⟨_, g⟩ | ⟨_, g⟩ | ⟨_, g⟩ <;> rw [g] <;> unfold hld <;> simp (disch := decide) only [gup_ne, gup_same]
  · rcases hcs with ⟨c, g⟩ | ⟨c, g⟩ | ⟨c, g⟩ <;> rw [g]
    · rw [gup_ne (by decide), gup_ne (by decide), gup_at, if_neg (by omega)]
    · rw [gup_ne (by decide), gup_ne (by decide), gup_at, if_pos c]
    · rw [gup_ne (by decide), gup_at, if_neg (by omega)]
/-- a sign is held -/
theorem rM_push {k d m : Int} {Z : gN} (hL : rL τ Z) (hE : rE τ Z) (hk1 : hk k) (h3 : k ≠ 3) (h03 : 0 ≤ Z 3 0) (hf : gfr [-6936, 84, -6933, -6937, -6938] τ τ1) (e36 : τ1 (-6936) 0 = m + 1) (e84 : ∀ j : Int, τ1 84 j = if j = Z 3 0 then sg k else τ 84 j) (e33 : τ1 (-6933) 0 = Z 3 0 + 1) (e37 : τ1 (-6937) 0 = 1) (e38 : τ1 (-6938) 0 = if bnd k ≤ 3 then 1 else 0) : rM τ1 (op2 (hld (gup Z 1 0 (m + 1)) k) k d) := by
  obtain ⟨r, q0, q3, q9, q5⟩ := op2_rows (S := gup Z 1 0 (m + 1)) (d := d) hk1 h3
  obtain ⟨l1, l2, l3, l4, l5⟩ := hL
  obtain ⟨w1, w2, w3, w4, w5⟩ := hE
  have z : ∀ x : Int, x ≠ 1 → gup Z 1 0 (m + 1) x = Z x := fun x hx => gup_ne hx
  have r1 := r 1 (by decide) (by decide) (by decide) (by decide) (by decide)
  have r2 := (r 2 (by decide) (by decide) (by decide) (by decide) (by decide)).trans (z 2 (by decide))
  have r4 := (r 4 (by decide) (by decide) (by decide) (by decide) (by decide)).trans (z 4 (by decide))
  have r7 := (r 7 (by decide) (by decide) (by decide) (by decide) (by decide)).trans (z 7 (by decide))
  have r8 := (r 8 (by decide) (by decide) (by decide) (by decide) (by decide)).trans (z 8 (by decide))
  have r11 := (r 11 (by decide) (by decide) (by decide) (by decide) (by decide)).trans (z 11 (by decide))
  have r12 := (r 12 (by decide) (by decide) (by decide) (by decide) (by decide)).trans (z 12 (by decide))
  have r13 := (r 13 (by decide) (by decide) (by decide) (by decide) (by decide)).trans (z 13 (by decide))
  have r14 := (r 14 (by decide) (by decide) (by decide) (by decide) (by decide)).trans (z 14 (by decide))
  rw [z 3 (by decide)] at q3
  rw [z 3 (by decide), z 9 (by decide)] at q9
  refine ⟨⟨by rw [e36, r1, gup_at], by rw [hf _ (by decide), r7]; exact l2, by rw [hf _ (by decide), r2]; exact l3, fun i hi => ?_, fun i a1 a2 => ?_⟩, ⟨by rw [e33, q3], fun i hi => ?_, by rw [hf _ (by decide), r4]; exact w3, ?_⟩, Or.inl ⟨q0, e37, by rw [e38, q5]⟩⟩
  · rw [r2] at hi; rw [r8]; exact nOK_fr (l4 i hi) (hf _ (by decide)) (hf _ (by decide)) (hf _ (by decide))
  · rw [r7] at a2
    have := l5 i a1 a2
    unfold lnR at this ⊢
    rw [hf 79 (by decide), hf 80 (by decide), hf 81 (by decide), hf 82 (by decide), hf 83 (by decide), r11, r12, r13]; exact this
  · rw [q3] at hi
    rw [e84, q9]
    by_cases c : (i : Int) = Z 3 0
    · rw [if_pos c, if_pos c]
    · rw [if_neg c, if_neg c]; exact w2 i (by omega)
  · rw [r8, r14, r2]
    exact ⟨by rw [hf _ (by decide)]; exact w4, fun j hj => by rw [hf _ (by decide)]; exact w5 j hj⟩
theorem tk17 (h : hT τ b n p) : τ (-6917) 0 = (sc b n p).2.2.1 := h.2.2.1
theorem s_leafRead (h : hT τ b n p) (hL : pL S) (hp : p2 S) (hM : rM τ S) : gv g_X12_leafRead T τ (tnQ τ b n p S) := by
  have hp' := id hp
  obtain ⟨h0, h7, ⟨hE, hC⟩, h5, hn, hc⟩ := hp
  obtain ⟨mL, mE, mm⟩ := hM
  obtain ⟨e37, e38⟩ : τ (-6937) 0 = 1 ∧ τ (-6938) 0 = S 5 0 := by
    rcases mm with g | g
    · exact g.2
    · have := g.1; omega
  have h64 := pE_64 hE
  have hsc := sc_in (b := b) h.2.2.2
  have htk := h.2.1
  generalize hk : (sc b n p).1 = k at *
  generalize hv : (sc b n p).2.1 = v at *
  have ef : fc S k v = (if k = 3 then (if S 4 0 < 8 then 0 else 2) else if k = 9 then (if S 5 0 = 0 then 1 else if S 1 0 < 64 then 0 else 2) else if k = 2 ∨ (12 ≤ k ∧ k ≤ 20) then (if S 1 0 < 64 ∧ v < 1000 then 0 else 2) else 1) := by unfold fc; rw [if_neg (by omega), if_neg (by omega), if_pos h0]
  have en : nx S k v = (if k = 3 then opn S else if k = 9 then opr S 9 else opd S k v) := by unfold nx; rw [if_neg (by omega), if_neg (by omega), if_pos h0]
  have hlt : S 3 0 < 96 := by omega
  have s3 := d_sign (T := T) htk (x := 40) (k := 3) (by decide)
  have k9 := d_key (T := T) htk (x := 5) (by decide)
  rw [show 6 + pz 5 = 9 by decide] at k9
  unfold g_X12_leafRead
  refine gv_rd s3 ?_
  by_cases c3 : k = 3
  · rw [if_pos c3]
    rw [if_pos c3] at ef en
    refine gv_cz (by decide) (fun g => absurd g (by decide)) (fun _ => gv_get ?_)
    rw [mE.2.2.1]
    refine gv_cb ⟨⟨by omega, by omega⟩, ⟨by omega, by omega⟩⟩ (fun c8 => gv_get (gv_put ?_)) (fun c8 => tn_wrong (gfr.refl [] τ) (by decide) (lo3.refl _) (tk17 h) (by rw [hk, hv, ef, if_neg (by omega)]) (by decide))
    rw [if_pos (by omega)] at ef
    rw [mE.2.2.1]
    refine gv_call (s_waitsFor (h := S 3 0) (by rw [gup_ne (by decide)]; exact mE.1) (by omega)) (fun _ τ2 h2 => gv_put ?_)
    subst h2
    generalize hσ : gup (gup (gup (gup τ (-6935) 0 (S 4 0 + 1)) 84 (S 3 0) 0) (-6933) 0 (S 3 0 + 1)) (-6938) 0 1 = σ
    have hf : gfr [-6935, 84, -6933, -6938] τ σ := by rw [← hσ]; exact ((((gfr.refl _ _).up (by decide)).up (by decide)).up (by decide)).up (by decide)
    have r : ∀ r : Int, r ≠ 3 → r ≠ 4 → r ≠ 10 → r ≠ 5 → r ≠ 9 → opn S r = S r := fun r a1 a2 a3 a4 a5 => by
      unfold opn hld; rw [gup_ne a1, gup_ne a5, gup_ne a4, gup_ne a3, gup_ne a2]
    have q3 : opn S 3 0 = S 3 0 + 1 := by unfold opn hld; rw [gup_at]; simp (disch := decide) only [gup_ne]
    have q4 : opn S 4 0 = S 4 0 + 1 := by unfold opn hld; simp (disch := decide) only [gup_ne, gup_at]
    have q5 : opn S 5 0 = 1 := by unfold opn hld; simp (disch := decide) only [gup_ne, gup_at]
    have q9 : ∀ j : Int, opn S 9 j = if j = S 3 0 then 3 else S 9 j := fun j => by unfold opn hld; rw [gup_ne (by decide), gup_same]; simp (disch := decide) only [gup_ne]
    have r1 := r 1 (by decide) (by decide) (by decide) (by decide) (by decide)
    have r2 := r 2 (by decide) (by decide) (by decide) (by decide) (by decide)
    have r7 := r 7 (by decide) (by decide) (by decide) (by decide) (by decide)
    have r8 := r 8 (by decide) (by decide) (by decide) (by decide) (by decide)
    have r11 := r 11 (by decide) (by decide) (by decide) (by decide) (by decide)
    have r12 := r 12 (by decide) (by decide) (by decide) (by decide) (by decide)
    have r13 := r 13 (by decide) (by decide) (by decide) (by decide) (by decide)
    have r14 := r 14 (by decide) (by decide) (by decide) (by decide) (by decide)
    have r0 := r 0 (by decide) (by decide) (by decide) (by decide) (by decide)
    refine tn_ok hf (by decide) (hf.lo3 (by decide)) (h.fr hf (by decide)) (by rw [hk, hv]; exact ef) (by rw [hk, hv]; exact en) ⟨rL_rows (mL.fr hf (by decide)) (by rw [r1]) (by rw [r2]) (by rw [r7]) r8 r11 r12 r13, ⟨?_, fun i hi => ?_, ?_, ?_⟩, Or.inl ⟨by rw [r0]; exact h0, by rw [hf _ (by decide)]; exact e37, ?_⟩⟩
    · rw [q3, ← hσ]; simp (disch := decide) only [gup_ne, gup_at]
    · rw [q3] at hi
      rw [← hσ, q9]; simp (disch := decide) only [gup_ne, gup_same]
      by_cases c : (i : Int) = S 3 0
      · rw [if_pos c, if_pos c]; rfl
      · rw [if_neg c, if_neg c]; exact mE.2.1 i (by omega)
    · rw [q4, ← hσ]; simp (disch := decide) only [gup_ne, gup_at]
    · rw [r8, r14, r2]
      have := mE.2.2.2
      exact ⟨by rw [hf _ (by decide)]; exact this.1, fun j hj => by rw [hf _ (by decide)]; exact this.2 j hj⟩
    · rw [q5, ← hσ, gup_at]
  rw [if_neg c3]
  rw [if_neg c3] at ef en
  refine gv_cz (by decide) (fun _ => gv_rd k9 ?_) (fun g => absurd rfl g)
  -- neither a bracket nor a not that fits
  have h85 : ¬ (k = 9 ∧ ¬ S 5 0 = 0) → gv g_X12_leafRead_85 T τ (tnQ τ b n p S) := fun c9 => by
    unfold g_X12_leafRead_85
    have hin := htk.in
    -- the rest, once a name or a number that fits is there
    have h125 : ∀ x : Int, (x = 1 ∧ (12 ≤ k ∧ k ≤ 20) ∧ τ (-6916) 0 = k - 6) ∨ (x = 0 ∧ k = 2 ∧ τ (-6916) 0 = v ∧ v < 1000) → gv (g_X12_leafRead_125 x) T τ (tnQ τ b n p S) := fun x hx => by
      have c9' : ¬ k = 9 := by omega
      rw [if_neg c9', if_pos (by omega)] at ef
      rw [if_neg c9'] at en
      unfold g_X12_leafRead_125
      refine gv_call (s_isCounted mL.1 (by omega)) (fun r τ2 h2 => ?_)
      rcases h2 with ⟨m1, rfl, rfl⟩ | ⟨m1, rfl, w⟩
      · refine gv_cz (by decide) (fun _ => ?_) (fun g => absurd (by decide) g)
        rw [if_pos (by omega)] at ef
        have hlt2 : 0 ≤ S 2 0 ∧ S 2 0 < 64 := by
          obtain ⟨h', o, s, e1, e2, e3, hE⟩ := hE
          have := hE.2.2.1
          omega
        have hf1 : gfr [-6936] τ (gup τ (-6936) 0 (S 1 0 + 1)) := (gfr.refl _ _).up (by decide)
        have e16 : gup τ (-6936) 0 (S 1 0 + 1) (-6916) 0 = τ (-6916) 0 := by rw [gup_ne (by decide)]
        have e36 : gup τ (-6936) 0 (S 1 0 + 1) (-6936) 0 = S 1 0 + 1 := gup_at _ _ _ _
        generalize gup τ (-6936) 0 (S 1 0 + 1) = σ at hf1 e16 e36 ⊢
        have hRN : RN σ (S 8) (S 2 0).toNat (sn (S 8) (S 14 0) (S 2 0 - S 14 0).toNat) := by
          obtain ⟨r1, ⟨r2, r2'⟩, r3, r4⟩ := RN_of mL mE hE
          exact ⟨by rw [hf1 _ (by decide)]; exact r1, ⟨by rw [hf1 _ (by decide)]; exact r2, fun j hj => by rw [hf1 _ (by decide)]; exact r2' j hj⟩, r3, fun i hi => nOK_fr (r4 i hi) (hf1 _ (by decide)) (hf1 _ (by decide)) (hf1 _ (by decide))⟩
        have hw : wdO (if k = 2 then v else 1000 + k) ∧ need (if k = 2 then v else 1000 + k) = 0 := by
          unfold wdO need
          by_cases c : k = 2
          · rw [if_pos c, if_pos (by omega)]; exact ⟨by omega, rfl⟩
          · rw [if_neg c, if_pos (by omega)]; exact ⟨by omega, rfl⟩
        have r : ∀ r : Int, r ≠ 0 → r ≠ 1 → r ≠ 2 → r ≠ 8 → opd S k v r = S r := fun r a1 a2 a3 a4 => by
          unfold opd wrt; rw [gup_ne a1, gup_ne a3, gup_ne a4, gup_ne a2]
        have q0 : opd S k v 0 0 = 3 := by unfold opd; rw [gup_at]
        have q1 : opd S k v 1 0 = S 1 0 + 1 := by unfold opd wrt; simp (disch := decide) only [gup_ne, gup_at]
        have q2 : opd S k v 2 0 = S 2 0 + 1 := by unfold opd wrt; simp (disch := decide) only [gup_ne, gup_at]
        have q8 : ∀ j : Int, opd S k v 8 j = if j = S 2 0 then (if k = 2 then v else 1000 + k) else S 8 j := fun j => by unfold opd wrt; rw [gup_ne (by decide), gup_ne (by decide), gup_same]; simp (disch := decide) only [gup_ne]
        have r3 := r 3 (by decide) (by decide) (by decide) (by decide)
        have r4 := r 4 (by decide) (by decide) (by decide) (by decide)
        have r7 := r 7 (by decide) (by decide) (by decide) (by decide)
        have r9 := r 9 (by decide) (by decide) (by decide) (by decide)
        have r11 := r 11 (by decide) (by decide) (by decide) (by decide)
        have r12 := r 12 (by decide) (by decide) (by decide) (by decide)
        have r13 := r 13 (by decide) (by decide) (by decide) (by decide)
        have r14 := r 14 (by decide) (by decide) (by decide) (by decide)
        have hgo : ∀ a y : Int, (a = 1 ∧ (12 ≤ k ∧ k ≤ 20) ∧ y = k - 12) ∨ (a = 0 ∧ k = 2 ∧ y = v ∧ v < 1000) → gv (g_X12_leafRead_162 a y) T σ (tnQ τ b n p S) := fun a y hay => by
          unfold g_X12_leafRead_162
          obtain ⟨h', o, s, e1, e2, e3, hEE⟩ := hE
          rw [show (S 2 0).toNat = o by omega, e3, show (S 2 0 - (s : Int)).toNat = o - s by omega] at hRN
          have hW : ∀ j : Nat, j < o → opd S k v 8 j = S 8 j := fun j hj => by rw [q8, if_neg (by omega)]
          have hw' : opd S k v 8 o = (if k = 2 then v else 1000 + k) := by rw [q8, if_pos (by omega)]
          refine gv_call (s_leaf (W' := opd S k v 8) hRN (by omega) hW ?_) (fun _ σ2 h2 => gv_put ?_)
          · rw [hw']
            by_cases c : k = 2
            · rw [if_pos c]; omega
            · rw [if_neg c]; omega
          obtain ⟨f2, lo2, R1, R2, R3, R4⟩ := h2
          have hm := sn_more (W' := opd S k v 8) hEE.2.2.2.1.1 hEE.2.2.2.1.2.1 hW hw' (by rw [hw.2]; omega)
          have hf3 : gfr [-6936, 76, 77, 78, 85, -6934, -6922, -6937] τ (gup σ2 (-6937) 0 0) := ((hf1.mono (by decide)).trans (f2.mono (by decide))).up (by decide)
          have hf4 : gfr [-6937] σ2 (gup σ2 (-6937) 0 0) := (gfr.refl _ _).up (by decide)
          have e37' : gup σ2 (-6937) 0 0 (-6937) 0 = 0 := gup_at _ _ _ _
          generalize gup σ2 (-6937) 0 0 = σ3 at hf3 hf4 e37' ⊢
          refine tn_ok hf3 (by decide) (((hf1.lo3 (by decide)).trans lo2).trans (hf4.lo3 (by decide))) (h.fr hf3 (by decide)) (by rw [hk, hv]; exact ef) (by rw [hk, hv]; exact en) ⟨⟨?_, ?_, ?_, fun i hi => ?_, fun i a1 a2 => ?_⟩, ⟨?_, fun i hi => ?_, ?_, ?_⟩, Or.inr ⟨q0, e37'⟩⟩
          · rw [hf4 _ (by decide), f2 _ (by decide), e36, q1]
          · rw [hf3 _ (by decide), r7]; exact mL.2.1
          · rw [hf4 _ (by decide), R1, q2]; omega
          · rw [q2] at hi
            exact nOK_fr (R4 i (by omega)) (hf4 _ (by decide)) (hf4 _ (by decide)) (hf4 _ (by decide))
          · rw [r7] at a2
            have := mL.2.2.2.2 i a1 a2
            unfold lnR at this ⊢
            rw [hf3 79 (by decide), hf3 80 (by decide), hf3 81 (by decide), hf3 82 (by decide), hf3 83 (by decide), r11, r12, r13]; exact this
          · rw [hf3 _ (by decide), r3]; exact mE.1
          · rw [r3] at hi
            rw [hf3 _ (by decide), r9]; exact mE.2.1 i hi
          · rw [hf3 _ (by decide), r4]; exact mE.2.2.1
          · rw [r14, q2, e3, show (S 2 0 + 1 - (s : Int)).toNat = o + 1 - s by omega, hm.2, hw.2]
            exact ⟨by rw [hf4 _ (by decide)]; exact R2.1, fun j hj => by rw [hf4 _ (by decide)]; exact R2.2 j hj⟩
        refine gv_ck (by unfold hf_inI; omega) (gv_let (gv_cz (by omega) (fun cx => gv_get ?_) (fun cx => gv_get ?_)))
        · rw [e16]
          exact hgo _ _ (Or.inr ⟨by rw [if_pos cx], by omega, by omega, by omega⟩)
        · rw [e16]
          exact hgo _ _ (Or.inl ⟨by rw [if_neg cx], by omega, by omega⟩)
      · refine gv_cz (by decide) (fun g => absurd rfl g) (fun _ => gv_ret ?_)
        exact tn_bad (gfr.refl [] τ) (by decide) (lo3.refl _) (tk17 h) w (by rw [hk, hv, ef, if_neg (by omega)]) (by decide)
    have h107 : ¬ (12 ≤ k ∧ k ≤ 20) → gv (g_X12_leafRead_107 0) T τ (tnQ τ b n p S) := fun cn => by
      unfold g_X12_leafRead_107
      refine gv_cz (by decide) (fun g => absurd rfl g) (fun _ => ?_)
      unfold g_X12_numberRead g_X12_numberRead_30
      by_cases c2 : k = 2
      · have hnum : τ (-6915) 0 = 2 ∧ (0 ≤ τ (-6916) 0 ∧ τ (-6916) 0 ≤ 9999) ∧ v = min 1000 (τ (-6916) 0) := by
          unfold tkR at htk
          rcases htk with g | g | g | g | g | g
          · omega
          · omega
          · exact g.2
          · omega
          · omega
          · omega
        obtain ⟨n1, n2, n3⟩ := hnum
        rw [if_neg (by omega), if_pos (by omega)] at ef
        refine gv_call (Q' := fun r τ2 => (τ (-6916) 0 ≤ 999 ∧ r = 1 ∧ τ2 = τ) ∨ (¬ τ (-6916) 0 ≤ 999 ∧ r = 0 ∧ τ2 (-6911) 0 = 2 ∧ τ2 (-6912) 0 = τ (-6917) 0 ∧ gfr [-6911, -6912] τ τ2)) (gv_get ?_) (fun r τ2 h2 => ?_)
        · rw [n1]
          refine gv_cb (by decide) (fun _ => gv_get (gv_cb ⟨⟨by omega, by omega⟩, ⟨by omega, by omega⟩⟩ (fun c => by omega) (fun c => gv_get (gv_cb ⟨⟨by omega, by omega⟩, ⟨by omega, by omega⟩⟩ (fun c => gv_ret (Or.inl ⟨c, rfl, rfl⟩)) (fun c => gv_call (s_wrong 2) (fun r τ2 h2 => ?_)))))) (fun g => absurd rfl g)
          rw [h2.1]
          exact gv_cz (by decide) (fun _ => gv_ret (Or.inr ⟨c, rfl, h2.2⟩)) (fun g => absurd rfl g)
        · rcases h2 with ⟨m1, rfl, rfl⟩ | ⟨m1, rfl, w⟩
          · exact gv_cz (by decide) (fun _ => h125 0 (Or.inr ⟨rfl, c2, by omega, by omega⟩)) (fun g => absurd (by decide) g)
          · refine gv_cz (by decide) (fun g => absurd rfl g) (fun _ => gv_ret ?_)
            exact tn_bad (gfr.refl [] τ) (by decide) (lo3.refl _) (tk17 h) w (by rw [hk, hv, ef, if_neg (by omega)]) (by decide)
      · have hw2 : ¬ τ (-6915) 0 = 2 := by
          unfold tkR at htk
          omega
        have efb : fc S k v = 1 := by
          rw [ef]
          by_cases c : k = 9
          · rw [if_pos c, if_pos (by omega)]
          · rw [if_neg c, if_neg (by omega)]
        refine gv_call (Q' := fun r τ2 => r = 0 ∧ τ2 (-6911) 0 = 1 ∧ τ2 (-6912) 0 = τ (-6917) 0 ∧ gfr [-6911, -6912] τ τ2) (gv_get (gv_cb (by omega) (fun g => absurd g hw2) (fun _ => gv_call (s_wrong 1) (fun r τ2 h2 => gv_ck (Or.inl h2.1) (gv_ret h2))))) (fun r τ2 h2 => ?_)
        rw [h2.1]
        exact gv_cz (by decide) (fun g => absurd rfl g) (fun _ => gv_ret (tn_bad (gfr.refl [] τ) (by decide) (lo3.refl _) (tk17 h) h2.2 (by rw [hk, hv]; exact efb) (by decide)))
    refine gv_get ?_
    refine gv_cb (by omega) (fun cw => h107 (fun g => cw ?_)) (fun cw => gv_get ?_)
    · unfold tkR at htk; omega
    · have h16 := hin.2.1 (by omega)
      have hpz : τ (-6916) 0 = pz (k - 6) ∧ (6 ≤ k ∧ k ≤ 20) := by
        unfold tkR at htk
        rcases htk with g | g | g | g | g | g
        · omega
        · omega
        · omega
        · exact ⟨g.2.2, g.1⟩
        · omega
        · omega
      have hpk : pz (k - 6) = if k - 6 = 3 then 5 else if k - 6 = 5 then 3 else k - 6 := rfl
      refine gv_cb ⟨⟨by omega, by omega⟩, ⟨by omega, by omega⟩⟩ (fun c6 => h107 (fun g => ?_)) (fun c6 => ?_)
      · rw [if_neg (by omega), if_neg (by omega)] at hpk
        omega
      · have cn : 12 ≤ k ∧ k ≤ 20 := by
          revert hpk
          repeat' split
          all_goals omega
        unfold g_X12_leafRead_107
        refine gv_cz (by decide) (fun _ => h125 1 (Or.inl ⟨rfl, cn, ?_⟩)) (fun g => absurd (by decide) g)
        rw [hpz.1, hpk, if_neg (by omega), if_neg (by omega)]
  by_cases c9 : k = 9
  · rw [if_pos c9]
    refine gv_cz (by decide) (fun g => absurd g (by decide)) (fun _ => gv_get ?_)
    rw [e38]
    refine gv_cz (by omega) (fun c5 => h85 (fun g => g.2 c5)) (fun c5 => ?_)
    rw [if_pos c9, if_neg c5] at ef
    rw [if_pos c9] at en
    refine gv_call (s_isCounted mL.1 (by omega)) (fun r τ2 h2 => ?_)
    rcases h2 with ⟨m1, rfl, rfl⟩ | ⟨m1, rfl, w⟩
    · refine gv_cz (by decide) (fun _ => gv_call (s_waitsFor (h := S 3 0) (by rw [gup_ne (by decide)]; exact mE.1) (by omega)) (fun _ τ2 h2 => ?_)) (fun g => absurd (by decide) g)
      subst h2
      generalize hσ : gup (gup (gup τ (-6936) 0 (S 1 0 + 1)) 84 (S 3 0) 2) (-6933) 0 (S 3 0 + 1) = σ
      have hf : gfr [-6936, 84, -6933, -6937, -6938] τ σ := by rw [← hσ]; exact (((gfr.refl _ _).up (by decide)).up (by decide)).up (by decide)
      refine tn_ok (Z := opr S 9) hf (by decide) (hf.lo3 (by decide)) (h.fr hf (by decide)) (by rw [hk, hv, ef, if_pos m1]) (by rw [hk, hv]; exact en) ?_
      unfold opr op1
      rw [if_pos rfl]
      refine rM_push (m := S 1 0) mL mE (Or.inr (Or.inl (by decide))) (by decide) (by omega) hf ?_ (fun j => ?_) ?_ ?_ ?_
      · rw [← hσ]; simp (disch := decide) only [gup_ne, gup_at]
      · rw [← hσ]; simp (disch := decide) only [gup_ne, gup_same]; rfl
      · rw [← hσ]; simp (disch := decide) only [gup_ne, gup_at]
      · rw [← hσ]; simp (disch := decide) only [gup_ne]; exact e37
      · rw [← hσ]; simp (disch := decide) only [gup_ne]; rw [e38, if_pos (by decide)]; omega
    · refine gv_cz (by decide) (fun g => absurd rfl g) (fun _ => gv_ret ?_)
      exact tn_bad (gfr.refl [] τ) (by decide) (lo3.refl _) (tk17 h) w (by rw [hk, hv, ef, if_neg (by omega)]) (by decide)
  · rw [if_neg c9]
    exact gv_cz (by decide) (fun _ => h85 (fun g => c9 g.1)) (fun g => absurd rfl g)
end
