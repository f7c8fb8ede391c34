/-! PLAN: the class's scanner, signs and the whole -/
theorem sgo_21 {c : Int} : sgo c = 21 ↔ c = 60 := by unfold sgo; repeat' split
                                                     all_goals omega
theorem sgo_26 {c : Int} : sgo c = 26 ↔ c = 62 := by unfold sgo; repeat' split
                                                     all_goals omega
theorem sgo_in (c : Int) : 1 ≤ sgo c ∧ sgo c ≤ 30 ∧ sgo c ≠ 22 ∧ sgo c ≠ 24 ∧ sgo c ≠ 25 := by unfold sgo; repeat' split
                                                                                               all_goals omega
section
variable {T : gT} {ν : gN} {b : Int → Int} {n p : Int}
theorem s_sign116 {k kd q : Int} {Q : Int → gN → Prop} (h3 : ν (-903) 0 = kd) (h2 : ν (-902) 0 = q) (hk : -100 ≤ k ∧ k ≤ 100) (hkd : -100 ≤ kd ∧ kd ≤ 100) (h1 : k = kd → Q 0 ν) (h4 : k ≠ kd → Q 0 (gup (gup ν (-903) 0 k) (-902) 0 (q + 1))) : gv (g_X9_readSign_116 k) T ν Q := by
  unfold g_X9_readSign_116
  refine gv_get (gv_cb ⟨⟨by omega, by omega⟩, ⟨by omega, by omega⟩⟩ (fun c => gv_ret (h1 (by omega))) (fun c => gv_put (gv_get (gv_put (gv_ret ?_)))))
  rw [gup_ne (by decide), h2]
  exact h4 (by omega)
theorem s_sign50 {c x q : Int} (h3 : ν (-903) 0 = sgo c) (h2 : ν (-902) 0 = q + 1) (hx : -2147483648 ≤ x ∧ x ≤ 2147483647) : gv (g_X9_readSign_50 x) T ν (fun _ ν' => gfr [-902, -903] ν ν' ∧ ν' (-903) 0 = sgk c x ∧ ν' (-902) 0 = q + sgl c x) := by
  have hin := sgo_in c
  have e21 := sgo_21 (c := c)
  have e26 := sgo_26 (c := c)
  have hup : ∀ k : Int, sgk c x = k → sgl c x = 2 → gfr [-902, -903] ν (gup (gup ν (-903) 0 k) (-902) 0 (q + 1 + 1)) ∧ gup (gup ν (-903) 0 k) (-902) 0 (q + 1 + 1) (-903) 0 = sgk c x ∧ gup (gup ν (-903) 0 k) (-902) 0 (q + 1 + 1) (-902) 0 = q + sgl c x := fun k e1 e2 => by
    refine ⟨((gfr.refl _ _).up (by decide)).up (by decide), by rw [gup_ne (by decide), gup_at, e1], by rw [gup_at, e2]; omega⟩
  have hst : sgk c x = sgo c → sgl c x = 1 → gfr [-902, -903] ν ν ∧ ν (-903) 0 = sgk c x ∧ ν (-902) 0 = q + sgl c x := fun e1 e2 => ⟨gfr.refl _ _, by rw [e1]; exact h3, by rw [e2]; exact h2⟩
  have l116 : ∀ k : Int, -100 ≤ k ∧ k ≤ 100 → (k = sgo c → sgk c x = sgo c ∧ sgl c x = 1) → (k ≠ sgo c → sgk c x = k ∧ sgl c x = 2) → gv (g_X9_readSign_116 k) T ν (fun _ ν' => gfr [-902, -903] ν ν' ∧ ν' (-903) 0 = sgk c x ∧ ν' (-902) 0 = q + sgl c x) := fun k hk g1 g2 => s_sign116 h3 h2 hk (by omega) (fun e => hst (g1 e).1 (g1 e).2) (fun e => hup k (g2 e).1 (g2 e).2)
  unfold g_X9_readSign_50 g_X9_readSign_77 g_X9_readSign_98
  refine gv_get (gv_get ?_)
  rw [h3]
  by_cases c60 : c = 60
  · have es := e21.mpr c60
    have k60 : sgk c x = if x = 61 then 22 else if x = 62 then 24 else 21 := by unfold sgk; rw [if_pos c60]
    rw [es]
    refine gv_cb (by decide) (fun h => absurd rfl h) (fun _ => gv_cb ⟨⟨by omega, by omega⟩, ⟨by omega, by omega⟩⟩ (fun cx => gv_get ?_) (fun cx => ?_))
    · rw [h3, es]
      refine gv_cb (by decide) (fun h => absurd rfl h) (fun _ => gv_cb ⟨⟨by omega, by omega⟩, ⟨by omega, by omega⟩⟩ (fun cy => gv_get ?_) (fun cy => ?_))
      · rw [h3, es]
        refine gv_cb (by decide) (fun _ => l116 21 (by decide) (fun _ => ⟨?_, ?_⟩) (fun h => absurd es.symm h)) (fun h => absurd (by decide) h)
        · rw [k60, if_neg cx, if_neg cy, es]
        · unfold sgl; rw [if_neg (by omega)]
      · refine l116 24 (by decide) (fun h => by omega) (fun _ => ⟨?_, ?_⟩)
        · rw [k60, if_neg cx, if_pos (by omega)]
        · unfold sgl; rw [if_pos (by omega)]
    · refine l116 22 (by decide) (fun h => by omega) (fun _ => ⟨?_, ?_⟩)
      · rw [k60, if_pos (by omega)]
      · unfold sgl; rw [if_pos (by omega)]
  · have es : sgo c ≠ 21 := fun h => c60 (e21.mp h)
    refine gv_cb ⟨⟨by omega, by omega⟩, ⟨by omega, by omega⟩⟩ (fun _ => gv_get ?_) (fun h => absurd es h)
    rw [h3]
    refine gv_cb ⟨⟨by omega, by omega⟩, ⟨by omega, by omega⟩⟩ (fun _ => gv_get ?_) (fun h => absurd es h)
    rw [h3]
    by_cases c62 : c = 62
    · have es2 := e26.mpr c62
      have k62 : sgk c x = if x = 61 then 25 else 26 := by unfold sgk; rw [if_neg c60, if_pos c62]
      rw [es2]
      refine gv_cb (by decide) (fun h => absurd rfl h) (fun _ => gv_cb ⟨⟨by omega, by omega⟩, ⟨by omega, by omega⟩⟩ (fun cx => ?_) (fun cx => ?_))
      · refine l116 26 (by decide) (fun _ => ⟨?_, ?_⟩) (fun h => absurd es2.symm h)
        · rw [k62, if_neg cx, es2]
        · unfold sgl; rw [if_neg (by omega)]
      · refine l116 25 (by decide) (fun h => by omega) (fun _ => ⟨?_, ?_⟩)
        · rw [k62, if_pos (by omega)]
        · unfold sgl; rw [if_pos (by omega)]
    · have es2 : sgo c ≠ 26 := fun h => c62 (e26.mp h)
      refine gv_cb ⟨⟨by omega, by omega⟩, ⟨by omega, by omega⟩⟩ (fun _ => l116 (sgo c) (by omega) (fun _ => ⟨?_, ?_⟩) (fun h => absurd rfl h)) (fun h => absurd es2 h)
      · unfold sgk; rw [if_neg c60, if_neg c62]
      · unfold sgl; rw [if_neg (by omega)]
theorem s_X9_readSign (h : scI ν b n p) (hp : p < n) : gv g_X9_readSign T ν (fun _ ν' => gfr [-902, -903] ν ν' ∧ ν' (-903) 0 = sgk (b p) (if n ≤ p + 1 then 0 else b (p + 1)) ∧ ν' (-902) 0 = p + sgl (b p) (if n ≤ p + 1 then 0 else b (p + 1))) := by
  obtain ⟨h7, h9, h1, h2, h3, h4, h5⟩ := id h
  have hb := h5 p h3.1 (by omega)
  unfold g_X9_readSign
  refine gv_get (gv_ck h9 (gv_get (gv_al (by omega) ?_)))
  rw [h2, h7]
  refine gv_rd (d_X9_signOf hb) (gv_put (gv_get (gv_put (gv_get (gv_get ?_)))))
  generalize ht : gup (gup ν (-903) 0 (sgo (b p))) (-902) 0 (gup ν (-903) 0 (sgo (b p)) (-902) 0 + 1) = τ
  have hf : gfr [-902, -903] ν τ := by rw [← ht]; exact ((gfr.refl _ _).up (by decide)).up (by decide)
  have t3 : τ (-903) 0 = sgo (b p) := by rw [← ht, gup_ne (by decide), gup_at]
  have t2 : τ (-902) 0 = p + 1 := by rw [← ht, gup_at, gup_ne (by decide), h2]
  have hQ : ∀ x : Int, x = (if n ≤ p + 1 then 0 else b (p + 1)) → (-2147483648 ≤ x ∧ x ≤ 2147483647) → gv (g_X9_readSign_50 x) T τ (fun _ ν' => gfr [-902, -903] ν ν' ∧ ν' (-903) 0 = sgk (b p) (if n ≤ p + 1 then 0 else b (p + 1)) ∧ ν' (-902) 0 = p + sgl (b p) (if n ≤ p + 1 then 0 else b (p + 1))) := fun x ex hx => by
    rw [← ex]
    exact (s_sign50 (c := b p) (q := p) t3 t2 hx).mono (fun _ ν' hh => ⟨hf.trans hh.1, hh.2⟩)
  rw [t2, hf (-901) (by decide), h1]
  refine gv_cb ⟨⟨by omega, by omega⟩, ⟨by omega, by omega⟩⟩ (fun c => hQ 0 (by rw [if_pos c]) (by decide)) (fun c => gv_get (gv_ck (by rw [hf _ (by decide)]; exact h9) (gv_get (gv_al (by omega) ?_))))
  rw [t2, hf 7 (by decide), h7]
  exact hQ _ (by rw [if_neg c]) (h5 _ (by omega) (by omega))
def wSc : List Int := [-902, -903, -904, -905]
theorem sgl_in (c x : Int) : 1 ≤ sgl c x ∧ sgl c x ≤ 2 := by unfold sgl; split <;> omega
/-- a token is read -/
theorem s_X9_advance (h : scI ν b n p) : gv g_X9_advance T ν (fun _ ν' => gfr wSc ν ν' ∧ ν' (-903) 0 = (sc b n p).1 ∧ ν' (-905) 0 = (sc b n p).2.1 ∧ ν' (-904) 0 = (sc b n p).2.2.1 ∧ ν' (-902) 0 = (sc b n p).2.2.2) := by
  have h52 : ∀ τ : gN, scI τ b n (rn (blk b) n p) → gfr [-902] ν τ → gv g_X9_advance_52 T τ (fun _ ν' => gfr wSc ν ν' ∧ ν' (-903) 0 = (sc b n p).1 ∧ ν' (-905) 0 = (sc b n p).2.1 ∧ ν' (-904) 0 = (sc b n p).2.2.1 ∧ ν' (-902) 0 = (sc b n p).2.2.2) := fun τ hS hf => by
    unfold sc
    generalize rn (blk b) n p = s at hS ⊢
    unfold g_X9_advance_52
    obtain ⟨h7, h9, h1, h2, h3, h4, h5⟩ := id hS
    refine gv_get (gv_put (gv_put (gv_get (gv_get ?_))))
    rw [h2]
    generalize ht : gup (gup τ (-904) 0 s) (-905) 0 0 = σ
    have hg : gfr [-904, -905] τ σ := by rw [← ht]; exact ((gfr.refl _ _).up (by decide)).up (by decide)
    have s4 : σ (-904) 0 = s := by rw [← ht, gup_ne (by decide), gup_at]
    have s5 : σ (-905) 0 = 0 := by rw [← ht, gup_at]
    have s2 : σ (-902) 0 = s := by rw [hg _ (by decide)]; exact h2
    have hS2 : scI σ b n s := hS.mv (hg.mono (by decide)) s2 h3
    have hf2 : gfr wSc ν σ := (hf.mono (by decide)).trans (hg.mono (by decide))
    rw [s2, hg (-901) (by decide), h1]
    refine gv_cb ⟨⟨by omega, by omega⟩, ⟨by omega, by omega⟩⟩ (fun c => gv_get ?_) (fun c => gv_put (gv_ret ?_))
    · rw [s2]
      rw [if_neg (by omega)]
      refine gv_tz (k1 := gret 0) (k2 := gret 0) (d_X9_isDigitAt hS2 h3) (fun c2 => gv_e1 ?_) (fun c2 => gv_e0 (gv_get ?_))
      · rw [if_pos c2.2]
        refine gv_call (s_X9_readNumber hS2 s5) (fun _ ν' hh => gv_ret ⟨hf2.trans (hh.1.mono (by decide)), hh.2.1, hh.2.2.2, ?_, hh.2.2.1⟩)
        rw [hh.1 _ (by decide)]; exact s4
      · rw [s2, if_neg (fun g => c2 ⟨c, g⟩)]
        refine gv_tz (k1 := gret 0) (k2 := gret 0) (d_X9_isLetterAt hS2 h3) (fun c3 => gv_e1 ?_) (fun c3 => gv_e0 ?_)
        · rw [if_pos c3.2]
          refine gv_call (s_X9_readWord hS2 s4) (fun _ ν' hh => gv_ret ⟨hf2.trans (hh.1.mono (by decide)), hh.2.2, ?_, ?_, hh.2.1⟩)
          · rw [hh.1 _ (by decide)]; exact s5
          · rw [hh.1 _ (by decide)]; exact s4
        · rw [if_neg (fun g => c3 ⟨c, g⟩)]
          refine gv_call (s_X9_readSign hS2 c) (fun _ ν' hh => gv_ret ⟨hf2.trans (hh.1.mono (by decide)), hh.2.1, ?_, ?_, hh.2.2⟩)
          · rw [hh.1 _ (by decide)]; exact s5
          · rw [hh.1 _ (by decide)]; exact s4
    · rw [if_pos (by omega)]
      refine ⟨hf2.up (by decide), gup_at _ _ _ _, ?_, ?_, ?_⟩
      · rw [gup_ne (by decide)]; exact s5
      · rw [gup_ne (by decide)]; exact s4
      · rw [gup_ne (by decide)]; exact s2
  unfold g_X9_advance g_X9_advance_0
  refine gv_fx (fun (_ : Unit) τ => ∃ q : Int, scI τ b n q ∧ gfr [-902] ν τ ∧ rn (blk b) n p = rn (blk b) n q) (fun _ τ => (n - τ (-902) 0).toNat) ⟨p, h, gfr.refl _ _, rfl⟩ (by have := h.2.2.2.2.1; have := h.2.2.2.2.2.1; rw [h.2.2.2.1]; omega) ?_
  intro rec _ τ hI hrec
  obtain ⟨q, hS, hf, er⟩ := hI
  obtain ⟨h7, h9, h1, h2, h3, h4, h5⟩ := id hS
  have hout : rn (blk b) n q = q → gv g_X9_advance_52 T τ (fun _ ν' => gfr wSc ν ν' ∧ ν' (-903) 0 = (sc b n p).1 ∧ ν' (-905) 0 = (sc b n p).2.1 ∧ ν' (-904) 0 = (sc b n p).2.2.1 ∧ ν' (-902) 0 = (sc b n p).2.2.2) := fun e => h52 τ (by rw [er, e]; exact hS) hf
  have hmore : q < n → blk b q = true → gv (g_X9_advance_39 rec) T τ (fun _ ν' => gfr wSc ν ν' ∧ ν' (-903) 0 = (sc b n p).1 ∧ ν' (-905) 0 = (sc b n p).2.1 ∧ ν' (-904) 0 = (sc b n p).2.2.1 ∧ ν' (-902) 0 = (sc b n p).2.2.2) := fun c e => by
    unfold g_X9_advance_39
    refine gv_get (gv_put (hrec _ _ ⟨q + 1, hS.mv ((gfr.refl _ _).up (by decide)) (by rw [gup_at, h2]) (by omega), hf.up (by decide), by rw [er, rn_yes c e]⟩ ?_))
    rw [gup_at, h2]; omega
  unfold gB_X9_advance_0
  refine gv_get (gv_get ?_)
  rw [h2, h1]
  refine gv_cb ⟨⟨by omega, by omega⟩, ⟨by omega, by omega⟩⟩ (fun c => hout (rn_end c)) (fun c => gv_get (gv_ck h9 (gv_get (gv_al (by omega) ?_))))
  rw [h2, h7]
  have hb := h5 q h3.1 (by omega)
  refine gv_cb ⟨⟨by omega, by omega⟩, ⟨by omega, by omega⟩⟩ (fun c2 => hmore (by omega) (decide_eq_true (Or.inl c2))) (fun c2 => gv_get (gv_ck h9 (gv_get (gv_al (by omega) ?_))))
  rw [h2, h7]
  exact gv_cb ⟨⟨by omega, by omega⟩, ⟨by omega, by omega⟩⟩ (fun c3 => hout (rn_no (fun g => by have := of_decide_eq_true g; omega))) (fun c3 => hmore (by omega) (decide_eq_true (Or.inr (by omega))))
end
