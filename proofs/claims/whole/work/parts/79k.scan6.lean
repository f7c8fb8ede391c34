/-! PLAN: the reference's scanner, signs and the whole -/
section
variable {T : gT} {ν : gN} {b : Int → Int} {n p : Int}
theorem s_take116 {c x2 x3 q : Int} (h16 : ν (-6916) 0 = c) (h14 : ν (-6914) 0 = q) (hc : c = 60 ∨ c = 61 ∨ c = 62) (a2 : x2 = 0 ∨ x2 = 1) (a3 : x3 = 0 ∨ x3 = 1) : gv (g_X12_takeSign_116 x2 x3) T ν (fun _ ν' => gfr [-6914, -6915, -6916] ν ν' ∧ ν' (-6915) 0 = 4 ∧ ν' (-6916) 0 = (if c = 61 then 2 else if c = 60 then (if x2 = 0 then (if x3 = 0 then 0 else 3) else 1) else (if x2 = 0 then 5 else 4)) ∧ ν' (-6914) 0 = q + (if x2 = 0 ∧ x3 = 0 then 0 else 1)) := by
  have h135 : ∀ τ : gN, gfr [-6914] ν τ → τ (-6914) 0 = q + (if x2 = 0 ∧ x3 = 0 then 0 else 1) → gv (g_X12_takeSign_135 x2 x3) T τ (fun _ ν' => gfr [-6914, -6915, -6916] ν ν' ∧ ν' (-6915) 0 = 4 ∧ ν' (-6916) 0 = (if c = 61 then 2 else if c = 60 then (if x2 = 0 then (if x3 = 0 then 0 else 3) else 1) else (if x2 = 0 then 5 else 4)) ∧ ν' (-6914) 0 = q + (if x2 = 0 ∧ x3 = 0 then 0 else 1)) := fun τ hf ht => by
    have e16 : gup τ (-6915) 0 4 (-6916) 0 = c := by rw [gup_ne (by decide), hf _ (by decide)]; exact h16
    have hend : ∀ v : Int, v = (if c = 61 then 2 else if c = 60 then (if x2 = 0 then (if x3 = 0 then 0 else 3) else 1) else (if x2 = 0 then 5 else 4)) → gv (g_X12_takeSign_192 v) T (gup τ (-6915) 0 4) (fun _ ν' => gfr [-6914, -6915, -6916] ν ν' ∧ ν' (-6915) 0 = 4 ∧ ν' (-6916) 0 = (if c = 61 then 2 else if c = 60 then (if x2 = 0 then (if x3 = 0 then 0 else 3) else 1) else (if x2 = 0 then 5 else 4)) ∧ ν' (-6914) 0 = q + (if x2 = 0 ∧ x3 = 0 then 0 else 1)) := fun v ev => by
      unfold g_X12_takeSign_192
      refine gv_put (gv_ret ⟨((hf.mono (by decide)).up (by decide)).up (by decide), ?_, ?_, ?_⟩)
      · rw [gup_ne (by decide), gup_at]
      · rw [gup_at]; exact ev
      · rw [gup_ne (by decide), gup_ne (by decide)]; exact ht
    unfold g_X12_takeSign_135
    refine gv_put (gv_get ?_)
    rw [e16]
    refine gv_cb ⟨⟨by omega, by omega⟩, ⟨by omega, by omega⟩⟩ (fun c1 => gv_get ?_) (fun c1 => hend 2 (by rw [if_pos (by omega)]))
    rw [e16]
    refine gv_cb ⟨⟨by omega, by omega⟩, ⟨by omega, by omega⟩⟩ (fun c2 => gv_cz (by omega) (fun c3 => hend 5 ?_) (fun c3 => hend 4 ?_)) (fun c2 => gv_cz (by omega) (fun c3 => gv_cz (by omega) (fun c4 => hend 0 ?_) (fun c4 => hend 3 ?_)) (fun c3 => hend 1 ?_))
    · rw [if_neg c1, if_neg c2, if_pos c3]
    · rw [if_neg c1, if_neg c2, if_neg c3]
    · rw [if_neg c1, if_pos (by omega), if_pos c3, if_pos c4]
    · rw [if_neg c1, if_pos (by omega), if_pos c3, if_neg c4]
    · rw [if_neg c1, if_pos (by omega), if_neg c3]
  have h125 : ¬ (x2 = 0 ∧ x3 = 0) → gv (g_X12_takeSign_125 x2 x3) T ν (fun _ ν' => gfr [-6914, -6915, -6916] ν ν' ∧ ν' (-6915) 0 = 4 ∧ ν' (-6916) 0 = (if c = 61 then 2 else if c = 60 then (if x2 = 0 then (if x3 = 0 then 0 else 3) else 1) else (if x2 = 0 then 5 else 4)) ∧ ν' (-6914) 0 = q + (if x2 = 0 ∧ x3 = 0 then 0 else 1)) := fun g => by
    unfold g_X12_takeSign_125
    refine gv_get (gv_put (h135 _ ((gfr.refl _ _).up (by decide)) ?_))
    rw [gup_at, h14, if_neg g]
  unfold g_X12_takeSign_116
  exact gv_cz (by omega) (fun c1 => h125 (by omega)) (fun c1 => gv_cz (by omega) (fun c2 => h135 ν (gfr.refl _ _) (by rw [if_pos (by omega), h14]; omega)) (fun c2 => h125 (by omega)))
theorem s_take74 {c x q : Int} (h16 : ν (-6916) 0 = c) (h14 : ν (-6914) 0 = q + 1) (hc : c = 60 ∨ c = 61 ∨ c = 62) (hx : -2147483648 ≤ x ∧ x ≤ 2147483647) : gv (g_X12_takeSign_74 x) T ν (fun _ ν' => gfr [-6914, -6915, -6916] ν ν' ∧ tkR (sgk c x) 0 (ν' (-6915) 0) (ν' (-6916) 0) ∧ ν' (-6914) 0 = q + sgl c x) := by
  have h95 : ∀ x2 : Int, x2 = (if c ≠ 61 ∧ x = 61 then 1 else 0) → gv (g_X12_takeSign_95 x x2) T ν (fun _ ν' => gfr [-6914, -6915, -6916] ν ν' ∧ tkR (sgk c x) 0 (ν' (-6915) 0) (ν' (-6916) 0) ∧ ν' (-6914) 0 = q + sgl c x) := fun x2 e2 => by
    have a2 : x2 = 0 ∨ x2 = 1 := by rw [e2]; split <;> omega
    have h116 : ∀ x3 : Int, x3 = (if c = 60 ∧ x = 62 then 1 else 0) → gv (g_X12_takeSign_116 x2 x3) T ν (fun _ ν' => gfr [-6914, -6915, -6916] ν ν' ∧ tkR (sgk c x) 0 (ν' (-6915) 0) (ν' (-6916) 0) ∧ ν' (-6914) 0 = q + sgl c x) := fun x3 e3 => by
      have a3 : x3 = 0 ∨ x3 = 1 := by rw [e3]; split <;> omega
      refine (s_take116 h16 h14 hc a2 a3).mono ?_
      intro _ ν' hh
      obtain ⟨q1, q2, q3, q4⟩ := hh
      refine ⟨q1, Or.inr (Or.inr (Or.inr (Or.inr (Or.inl ?_)))), ?_⟩
      · rw [q2, q3]
        rcases hc with rfl | rfl | rfl
        · unfold sgk
          by_cases g1 : x = 61
          · simp [g1] at e2 e3 ⊢; simp [e2]
          · by_cases g2 : x = 62
            · simp [g2] at e2 e3 ⊢; simp [e2, e3]
            · simp [g1, g2] at e2 e3 ⊢; simp [e2, e3]
        · unfold sgk sgo; simp
        · unfold sgk
          by_cases g1 : x = 61
          · simp [g1] at e2 e3 ⊢; simp [e2]
          · simp [g1] at e2 e3 ⊢; simp [e2]
      · rw [q4]
        unfold sgl
        rcases hc with rfl | rfl | rfl
        · by_cases g1 : x = 61
          · simp [g1] at e2 e3 ⊢; simp [e2]; omega
          · by_cases g2 : x = 62
            · simp [g2] at e2 e3 ⊢; simp [e2, e3]; omega
            · simp [g1, g2] at e2 e3 ⊢; simp [e2, e3]
        · simp at e2 e3 ⊢; simp [e2, e3]
        · by_cases g1 : x = 61
          · simp [g1] at e2 e3 ⊢; simp [e2]; omega
          · simp [g1] at e2 e3 ⊢; simp [e2, e3]
    unfold g_X12_takeSign_95
    refine gv_get ?_
    rw [h16]
    exact gv_cb ⟨⟨by omega, by omega⟩, ⟨by omega, by omega⟩⟩ (fun c1 => h116 0 (by rw [if_neg (by omega)])) (fun c1 => gv_cb ⟨⟨by omega, by omega⟩, ⟨by omega, by omega⟩⟩ (fun c2 => h116 0 (by rw [if_neg (by omega)])) (fun c2 => h116 1 (by rw [if_pos (by omega)])))
  unfold g_X12_takeSign_74
  refine gv_get ?_
  rw [h16]
  exact gv_cb ⟨⟨by omega, by omega⟩, ⟨by omega, by omega⟩⟩ (fun c1 => h95 0 (by rw [if_neg (by omega)])) (fun c1 => gv_cb ⟨⟨by omega, by omega⟩, ⟨by omega, by omega⟩⟩ (fun c2 => h95 0 (by rw [if_neg (by omega)])) (fun c2 => h95 1 (by rw [if_pos (by omega)])))
theorem s_X12_takeSign (h : srI ν b n p) (hp : p < n) : gv g_X12_takeSign T ν (fun _ ν' => gfr [-6914, -6915, -6916] ν ν' ∧ tkR (sgk (b p) (if n ≤ p + 1 then 0 else b (p + 1))) 0 (ν' (-6915) 0) (ν' (-6916) 0) ∧ ν' (-6914) 0 = p + sgl (b p) (if n ≤ p + 1 then 0 else b (p + 1))) := by
  obtain ⟨h7, h9, h1, h2, h3, h4, h5⟩ := id h
  have hb := h5 p h3.1 (by omega)
  unfold g_X12_takeSign
  refine gv_get (gv_al (by omega) ?_)
  rw [h2, h7 p (by omega) (by omega)]
  refine gv_put (gv_get (gv_put (gv_get ?_)))
  generalize ht : gup (gup ν (-6916) 0 (b p)) (-6914) 0 (gup ν (-6916) 0 (b p) (-6914) 0 + 1) = τ
  have hf : gfr [-6914, -6916] ν τ := by rw [← ht]; exact ((gfr.refl _ _).up (by decide)).up (by decide)
  have t6 : τ (-6916) 0 = b p := by rw [← ht, gup_ne (by decide), gup_at]
  have t4 : τ (-6914) 0 = p + 1 := by rw [← ht, gup_at, gup_ne (by decide), h2]
  generalize hx : (if n ≤ p + 1 then 0 else b (p + 1)) = x
  have h50 : (b p = 60 ∨ b p = 61 ∨ b p = 62) → gv g_X12_takeSign_50 T τ (fun _ ν' => gfr [-6914, -6915, -6916] ν ν' ∧ tkR (sgk (b p) x) 0 (ν' (-6915) 0) (ν' (-6916) 0) ∧ ν' (-6914) 0 = p + sgl (b p) x) := fun hc => by
    unfold g_X12_takeSign_50
    have hq : ∀ y : Int, y = x → (-2147483648 ≤ y ∧ y ≤ 2147483647) → gv (g_X12_takeSign_74 y) T τ (fun _ ν' => gfr [-6914, -6915, -6916] ν ν' ∧ tkR (sgk (b p) x) 0 (ν' (-6915) 0) (ν' (-6916) 0) ∧ ν' (-6914) 0 = p + sgl (b p) x) := fun y ey hy => by
      rw [← ey]
      exact (s_take74 t6 t4 hc hy).mono (fun _ ν' hh => ⟨(hf.mono (by decide)).trans hh.1, hh.2⟩)
    refine gv_get (gv_get ?_)
    rw [t4, hf (-6913) (by decide), h1]
    refine gv_cb ⟨⟨by omega, by omega⟩, ⟨by omega, by omega⟩⟩ (fun c => hq 0 (by rw [← hx, if_pos c]) (by decide)) (fun c => gv_get (gv_al (by omega) ?_))
    rw [t4, hf 70 (by decide), h7 _ (by omega) (by omega)]
    exact hq _ (by rw [← hx, if_neg c]) (h5 _ (by omega) (by omega))
  have h266 : b p ≠ 60 → b p ≠ 62 → b p ≠ 61 → ∀ f : Int, (f = 0 ∨ f = 1) → (f = 1 → tkR (sgo (b p)) 0 3 (b p)) → (f = 0 → sgo (b p) = 1) → gv (g_X12_takeSign_266 f) T τ (fun _ ν' => gfr [-6914, -6915, -6916] ν ν' ∧ tkR (sgk (b p) x) 0 (ν' (-6915) 0) (ν' (-6916) 0) ∧ ν' (-6914) 0 = p + sgl (b p) x) := fun g1 g2 g3 f hf01 ha hz => by
    unfold g_X12_takeSign_266
    refine gv_ck (by unfold hf_inI; omega) (gv_let (gv_put (gv_ret ⟨(hf.mono (by decide)).up (by decide), ?_, ?_⟩)))
    · have ek : sgk (b p) x = sgo (b p) := by unfold sgk; rw [if_neg g1, if_neg g2]
      rw [gup_at, gup_ne (by decide), t6, ek]
      by_cases e : f = 0
      · rw [if_pos e, hz e]; exact Or.inr (Or.inl ⟨rfl, rfl⟩)
      · rw [if_neg e]; exact ha (by omega)
    · rw [gup_ne (by decide), t4]
      unfold sgl
      rw [if_neg (by omega)]
  rw [t6]
  refine gv_cb ⟨⟨by omega, by omega⟩, ⟨by omega, by omega⟩⟩ (fun g1 => h50 (Or.inl g1)) (fun g1 => gv_get ?_)
  rw [t6]
  refine gv_cb ⟨⟨by omega, by omega⟩, ⟨by omega, by omega⟩⟩ (fun g2 => h50 (Or.inr (Or.inr g2))) (fun g2 => gv_get ?_)
  rw [t6]
  refine gv_cb ⟨⟨by omega, by omega⟩, ⟨by omega, by omega⟩⟩ (fun g3 => gv_get ?_) (fun g3 => h50 (Or.inr (Or.inl (by omega))))
  have hs : ∀ k : Int, sgo (b p) = k → (((k = 3 ∧ b p = 40) ∨ (k = 4 ∧ b p = 41) ∨ (k = 5 ∧ b p = 59) ∨ (k = 27 ∧ b p = 43) ∨ (k = 28 ∧ b p = 45) ∨ (k = 29 ∧ b p = 42) ∨ (k = 30 ∧ b p = 47))) → gv (g_X12_takeSign_266 1) T τ (fun _ ν' => gfr [-6914, -6915, -6916] ν ν' ∧ tkR (sgk (b p) x) 0 (ν' (-6915) 0) (ν' (-6916) 0) ∧ ν' (-6914) 0 = p + sgl (b p) x) := fun k ek hk => h266 g1 g2 g3 1 (Or.inr rfl) (fun _ => by rw [ek]; exact Or.inr (Or.inr (Or.inr (Or.inr (Or.inr ⟨rfl, hk⟩))))) (fun h => absurd h (by decide))
  rw [t6]
  refine gv_cb ⟨⟨by omega, by omega⟩, ⟨by omega, by omega⟩⟩ (fun e1 => hs 5 (by rw [e1]; decide) (by omega)) (fun e1 => gv_get ?_)
  rw [t6]
  refine gv_cb ⟨⟨by omega, by omega⟩, ⟨by omega, by omega⟩⟩ (fun e2 => hs 3 (by rw [e2]; decide) (by omega)) (fun e2 => gv_get ?_)
  rw [t6]
  refine gv_cb ⟨⟨by omega, by omega⟩, ⟨by omega, by omega⟩⟩ (fun e3 => hs 4 (by rw [e3]; decide) (by omega)) (fun e3 => gv_get ?_)
  rw [t6]
  refine gv_cb ⟨⟨by omega, by omega⟩, ⟨by omega, by omega⟩⟩ (fun e4 => hs 27 (by rw [e4]; decide) (by omega)) (fun e4 => gv_get ?_)
  rw [t6]
  refine gv_cb ⟨⟨by omega, by omega⟩, ⟨by omega, by omega⟩⟩ (fun e5 => hs 28 (by rw [e5]; decide) (by omega)) (fun e5 => gv_get ?_)
  rw [t6]
  refine gv_cb ⟨⟨by omega, by omega⟩, ⟨by omega, by omega⟩⟩ (fun e6 => hs 29 (by rw [e6]; decide) (by omega)) (fun e6 => gv_get ?_)
  rw [t6]
  refine gv_cb ⟨⟨by omega, by omega⟩, ⟨by omega, by omega⟩⟩ (fun e7 => h266 g1 g2 g3 0 (Or.inl rfl) (fun h => absurd h (by decide)) (fun _ => ?_)) (fun e7 => hs 30 (by rw [show b p = 47 by omega]; decide) (by omega))
  unfold sgo
  rw [if_neg e2, if_neg e3, if_neg e6, if_neg e4, if_neg e5, if_neg e7, if_neg e1, if_neg g1, if_neg g3, if_neg g2]
/-- a token is taken -/
theorem s_X12_take (h : srI ν b n p) : gv g_X12_take T ν (fun _ ν' => gfr wSr ν ν' ∧ tkR (sc b n p).1 (sc b n p).2.1 (ν' (-6915) 0) (ν' (-6916) 0) ∧ ν' (-6917) 0 = (sc b n p).2.2.1 ∧ ν' (-6914) 0 = (sc b n p).2.2.2) := by
  have h52 : ∀ τ : gN, srI τ b n (rn (blk b) n p) → gfr [-6914] ν τ → gv g_X12_take_52 T τ (fun _ ν' => gfr wSr ν ν' ∧ tkR (sc b n p).1 (sc b n p).2.1 (ν' (-6915) 0) (ν' (-6916) 0) ∧ ν' (-6917) 0 = (sc b n p).2.2.1 ∧ ν' (-6914) 0 = (sc b n p).2.2.2) := fun τ hS hf => by
    unfold sc
    generalize rn (blk b) n p = s at hS ⊢
    unfold g_X12_take_52
    obtain ⟨h7, h9, h1, h2, h3, h4, h5⟩ := id hS
    refine gv_get (gv_put (gv_get (gv_get ?_)))
    rw [h2]
    generalize ht : gup τ (-6917) 0 s = σ
    have hg : gfr [-6917] τ σ := by rw [← ht]; exact (gfr.refl _ _).up (by decide)
    have s7 : σ (-6917) 0 = s := by rw [← ht, gup_at]
    have s2 : σ (-6914) 0 = s := by rw [hg _ (by decide)]; exact h2
    have hS2 : srI σ b n s := hS.mv (hg.mono (by decide)) s2 h3
    have hf2 : gfr wSr ν σ := (hf.mono (by decide)).trans (hg.mono (by decide))
    rw [s2, hg (-6913) (by decide), h1]
    refine gv_cb ⟨⟨by omega, by omega⟩, ⟨by omega, by omega⟩⟩ (fun c => gv_get ?_) (fun c => gv_put (gv_ret ?_))
    · have c' : s < n := by omega
      rw [s2]
      rw [if_neg (by omega)]
      refine gv_tz (k1 := gret 0) (k2 := gret 0) (d_X12_isSmall hS2 h3) (fun c3 => gv_e1 ?_) (fun c3 => gv_e0 (gv_get ?_))
      · rw [if_neg (fun g => by have g1 := of_decide_eq_true g; have g2 := of_decide_eq_true c3.2; omega), if_pos c3.2]
        refine (s_X12_take_90 hS2 s7).mono (fun _ ν' hh => ⟨hf2.trans (hh.1.mono (by decide)), hh.2.2, ?_, hh.2.1⟩)
        rw [hh.1 _ (by decide)]; exact s7
      · rw [s2]
        refine gv_tz (k1 := gret 0) (k2 := gret 0) (d_X12_isDigit hS2 h3) (fun c2 => gv_e1 (gv_put (gv_put ?_))) (fun c2 => gv_e0 ?_)
        · rw [if_pos c2.2]
          refine (s_X12_take_170 (hS2.mv (((gfr.refl _ _).up (by decide)).up (by decide)) (by rw [gup_ne (by decide), gup_ne (by decide)]; exact s2) h3) (gup_at _ _ _ _)).mono (fun _ ν' hh => ⟨((hf2.up (by decide)).up (by decide)).trans (hh.1.mono (by decide)), ?_, ?_, hh.2.1⟩)
          · rw [hh.1 (-6915) (by decide), gup_ne (by decide), gup_at]
            exact Or.inr (Or.inr (Or.inl ⟨rfl, rfl, hh.2.2.1, hh.2.2.2⟩))
          · rw [hh.1 _ (by decide), gup_ne (by decide), gup_ne (by decide)]; exact s7
        · rw [if_neg (fun g => c2 ⟨c', g⟩), if_neg (fun g => c3 ⟨c', g⟩)]
          refine gv_call (s_X12_takeSign hS2 c') (fun _ ν' hh => gv_ret ⟨hf2.trans (hh.1.mono (by decide)), hh.2.1, ?_, hh.2.2⟩)
          rw [hh.1 _ (by decide)]; exact s7
    · rw [if_pos (by omega)]
      refine ⟨hf2.up (by decide), ?_, ?_, ?_⟩
      · rw [gup_at]; exact Or.inl ⟨rfl, rfl⟩
      · rw [gup_ne (by decide)]; exact s7
      · rw [gup_ne (by decide)]; exact s2
  unfold g_X12_take g_X12_take_0
  refine gv_fx (fun (_ : Unit) τ => ∃ q : Int, srI τ b n q ∧ gfr [-6914] ν τ ∧ rn (blk b) n p = rn (blk b) n q) (fun _ τ => (n - τ (-6914) 0).toNat) ⟨p, h, gfr.refl _ _, rfl⟩ (by have := h.2.2.2.2.1; have := h.2.2.2.2.2.1; rw [h.2.2.2.1]; omega) ?_
  intro rec _ τ hI hrec
  obtain ⟨q, hS, hf, er⟩ := hI
  obtain ⟨h7, h9, h1, h2, h3, h4, h5⟩ := id hS
  have hout : rn (blk b) n q = q → gv g_X12_take_52 T τ (fun _ ν' => gfr wSr ν ν' ∧ tkR (sc b n p).1 (sc b n p).2.1 (ν' (-6915) 0) (ν' (-6916) 0) ∧ ν' (-6917) 0 = (sc b n p).2.2.1 ∧ ν' (-6914) 0 = (sc b n p).2.2.2) := fun e => h52 τ (by rw [er, e]; exact hS) hf
  have hmore : q < n → blk b q = true → gv (g_X12_take_39 rec) T τ (fun _ ν' => gfr wSr ν ν' ∧ tkR (sc b n p).1 (sc b n p).2.1 (ν' (-6915) 0) (ν' (-6916) 0) ∧ ν' (-6917) 0 = (sc b n p).2.2.1 ∧ ν' (-6914) 0 = (sc b n p).2.2.2) := fun c e => by
    unfold g_X12_take_39
    refine gv_get (gv_put (hrec _ _ ⟨q + 1, hS.mv ((gfr.refl _ _).up (by decide)) (by rw [gup_at, h2]) (by omega), hf.up (by decide), by rw [er, rn_yes c e]⟩ ?_))
    rw [gup_at, h2]; omega
  unfold gB_X12_take_0
  refine gv_get (gv_get ?_)
  rw [h2, h1]
  refine gv_cb ⟨⟨by omega, by omega⟩, ⟨by omega, by omega⟩⟩ (fun c => hout (rn_end c)) (fun c => gv_get (gv_al (by omega) ?_))
  rw [h2, h7 q (by omega) (by omega)]
  have hb := h5 q h3.1 (by omega)
  refine gv_cb ⟨⟨by omega, by omega⟩, ⟨by omega, by omega⟩⟩ (fun c2 => hmore (by omega) (decide_eq_true (Or.inl c2))) (fun c2 => gv_get (gv_al (by omega) ?_))
  rw [h2, h7 q (by omega) (by omega)]
  exact gv_cb ⟨⟨by omega, by omega⟩, ⟨by omega, by omega⟩⟩ (fun c3 => hout (rn_no (fun g => by have := of_decide_eq_true g; omega))) (fun c3 => hmore (by omega) (decide_eq_true (Or.inr (by omega))))
end
