/-! TRIAL: the class's run -/
def tC (ν P : gN) (t : Int) : Prop := ν (-2908) 0 = t ∧ ν (-2909) 0 = P 0 0 ∧ ν (-2910) 0 = P 1 0 ∧ (∀ k : Int, 0 ≤ k → k < 3 → ν 30 k = P 2 k) ∧ ν (-2911) 0 = P 3 0 ∧ ν (-2913) 0 = P 4 0 ∧ ν (-2912) 0 = P 5 0 ∧ (∀ i : Int, 0 ≤ i → i < P 3 0 → ν 31 i = P 6 i ∧ ν 32 i = P 7 i ∧ ν 33 i = P 8 i)
def wTr : List Int := [30, 31, 32, 33, 34, 35, 36, -2908, -2909, -2910, -2911, -2912, -2913, -2802, -2803, 38, -3701, -3702]
def wTc : List Int := [30, 31, 32, 33, -2908, -2909, -2910, -2911, -2912, -2913]
section
variable {T : gT} {ν τ D S P R : gN} {t pl : Int}
theorem tC.fr {τ' : gN} {L : List Int} (h : tC τ P t) (hf : gfr L τ τ') (hd : ∀ x ∈ wTc, x ∉ L) : tC τ' P t := by
  unfold tC
  rw [hf (-2908) (hd _ (by decide)), hf (-2909) (hd _ (by decide)), hf (-2910) (hd _ (by decide)), hf (-2911) (hd _ (by decide)), hf (-2912) (hd _ (by decide)), hf (-2913) (hd _ (by decide)), hf 30 (hd _ (by decide)), hf 31 (hd _ (by decide)), hf 32 (hd _ (by decide)), hf 33 (hd _ (by decide))]
  exact h
theorem tC_up (h : tC τ P t) {r j v : Int} (hr : 9 ≤ r) : tC τ (gup P r j v) t := by
  unfold tC
  rw [gup_ne (b := 0) (by omega), gup_ne (b := 1) (by omega), gup_ne (b := 2) (by omega), gup_ne (b := 3) (by omega), gup_ne (b := 4) (by omega), gup_ne (b := 5) (by omega), gup_ne (b := 6) (by omega), gup_ne (b := 7) (by omega), gup_ne (b := 8) (by omega)]
  exact h
theorem nmC_of (h : tC τ P t) (hp : pT P) : nmC τ (nmv P) := by
  obtain ⟨h1, h2, h3, h4, h5, h6, h7, h8⟩ := h
  unfold nmC
  rw [h5, h2, h3]
  refine ⟨hp.1, rfl, rfl, rfl, rfl, fun c => ?_, fun c => ?_, h4 0 (by decide) (by decide), h4 1 (by decide) (by decide), h4 2 (by decide) (by decide)⟩
  · have := h8 (P 3 0 - 1) (by omega) (by omega)
    refine ⟨this.2.1.trans ?_, this.2.2.trans ?_⟩
    · show P 7 (P 3 0 - 1) = if 0 < P 3 0 then P 7 (P 3 0 - 1) else 0; rw [if_pos c]
    · show P 8 (P 3 0 - 1) = if 0 < P 3 0 then P 8 (P 3 0 - 1) else 0; rw [if_pos c]
  · refine ⟨?_, ?_⟩
    · show (if 0 < P 3 0 then P 7 (P 3 0 - 1) else 0) = 0; rw [if_neg (by omega)]
    · show (if 0 < P 3 0 then P 8 (P 3 0 - 1) else 0) = 0; rw [if_neg (by omega)]
theorem s_letFallC {k s : Int} (h : tC τ P t) (hp : pT P) (hD : iSt τ) (ht : 0 ≤ t ∧ t ≤ 40) (hk : 0 ≤ k ∧ k < 3) (hs : 1 ≤ s ∧ s ≤ 40) (hc : P 3 0 < 200) (e3 : D 3 = τ 3) (e5 : D 5 = τ 5) (e204 : D (-204) = τ (-204)) (e205 : D (-205) = τ (-205)) : gv (g_X1_letFall_o29 k s) T τ (fun _ τ' => gfr [31, 32, 33, 34, 35, 36, 30, -2909, -2910, -2911, -2912, -2913] τ τ' ∧ tC τ' (fal D t P k s) t) := by
  obtain ⟨h1, h2, h3, h4, h5, h6, h7, h8⟩ := h
  obtain ⟨q0, q1, q2, q3, q4, q5, q6, q7, q8, _, _⟩ := fal_r (D := D) (P := P) (t := t) (k := k) (s := s)
  have hb : brk D t k s = if s ≤ τ (-2908) 0 + τ 3 k then 0 else 1 := by unfold brk; rw [e3, h1]
  have p1 := hp.1
  have p2 := hp.2.1
  have p3 := hp.2.2.1
  refine (s_X1_letFall_o29 (b := brk D t k s) hk hs hD.d3 (by omega) (by omega) (by omega) (by omega) hb).mono (fun r τ' hh => ?_)
  obtain ⟨_, f, g31, g32, g33, _, _, _, g30, g11, g09, g10, g12, g13⟩ := hh
  refine ⟨f, by rw [f _ (by decide)]; exact h1, ?_, ?_, fun j a b => ?_, ?_, ?_, ?_, fun i a b => ?_⟩
  · rw [g09, q0, h2, e3]
  · rw [g10, q1, h3, e3]
  · rw [g30, q2]
    split
    · rw [h4 k hk.1 hk.2]
    · exact h4 j a b
  · rw [g11, q3, h5]
  · rw [g13, q4, h6, e204, e205, e5]
  · rw [g12, q5, h7]
  · rw [q3] at b
    rw [g31, g32, g33, q6, q7, q8, h5]
    by_cases c : i = P 3 0
    · refine ⟨?_, ?_, ?_⟩ <;> simp only [if_pos c]
    · have := h8 i a (by omega)
      refine ⟨?_, ?_, ?_⟩ <;> simp only [if_neg c]
      · exact this.1
      · exact this.2.1
      · exact this.2.2
/-- one turn of the class's: the trial ends, or goes on with a fall more -/
theorem s_takeTurn (hpl : pl = 18 ∨ pl = 23) (hR : pRw τ pl S) (hL : pL S) (hD : iSt τ) (h : tC τ P t) (hp : pT P) (ht : 0 ≤ t ∧ t ≤ 40) (hlt : P 0 0 < P 1 0) (h9 : P 9 0 = -1) (h10 : P 10 0 = -1) (e2 : τ (-2802) 0 = -1) (e3 : τ (-2803) 0 = -1) (d3 : D 3 = τ 3) (d5 : D 5 = τ 5) (d4 : D (-204) = τ (-204)) (d6 : D (-205) = τ (-205)) (d2 : D (-200) = τ (-200)) : gv (g_X6_takeTurn pl) T τ (fun _ τ' => gfr wTr τ τ' ∧ ((∃ R, trR D S t 1 P R ∧ tC τ' R t ∧ pT R ∧ τ' (-2802) 0 = R 9 0 ∧ τ' (-2803) 0 = R 10 0 ∧ (0 ≤ R 9 0 ∧ R 9 0 ≤ 3) ∧ bdd (R 10 0)) ∨ (∃ P', (∀ f R, trR D S t f P' R → trR D S t (f + 1) P R) ∧ tC τ' P' t ∧ pT P' ∧ P' 9 0 = -1 ∧ P' 10 0 = -1 ∧ P' 3 0 = P 3 0 + 1 ∧ τ' (-2802) 0 = -1 ∧ τ' (-2803) 0 = -1))) := by
  have hN := nmB_of hp
  have hC := nmC_of h hp
  have b7 := hL.1
  have b2 := hL.2.1
  have stuck : ∀ σ : gN, gfr [38, -3701, -3702] τ σ → ∀ R, R = gup P 9 0 3 → trR D S t 1 P R → gv (gput (-2802) 3 (gret (0 : Int))) T σ (fun _ τ' => gfr wTr τ τ' ∧ ((∃ R, trR D S t 1 P R ∧ tC τ' R t ∧ pT R ∧ τ' (-2802) 0 = R 9 0 ∧ τ' (-2803) 0 = R 10 0 ∧ (0 ≤ R 9 0 ∧ R 9 0 ≤ 3) ∧ bdd (R 10 0)) ∨ (∃ P', (∀ f R, trR D S t f P' R → trR D S t (f + 1) P R) ∧ tC τ' P' t ∧ pT P' ∧ P' 9 0 = -1 ∧ P' 10 0 = -1 ∧ P' 3 0 = P 3 0 + 1 ∧ τ' (-2802) 0 = -1 ∧ τ' (-2803) 0 = -1))) := fun σ hσ R hRe hR1 => by
    have hf : gfr [38, -3701, -3702, -2802] τ (gup σ (-2802) 0 3) := (hσ.mono (by decide)).up (by decide)
    refine gv_put (gv_ret ⟨hf.mono (by decide), Or.inl ⟨R, hR1, ?_, ?_, ?_, ?_, ?_, ?_⟩⟩)
    · rw [hRe]; exact tC_up (h.fr hf (by decide)) (by decide)
    · rw [hRe]; exact pT_up hp (by decide)
    · rw [hRe, gup_at, gup_at]
    · rw [hRe, gup_ne (b := 10) (by decide), hf _ (by decide), e3, h10]
    · rw [hRe, gup_at]; decide
    · rw [hRe, gup_ne (b := 10) (by decide), h10]; unfold bdd mxv; omega
  unfold g_X6_takeTurn
  refine gv_call (s_lineC hpl hR hL hN hC) (fun l τ1 hl => ?_)
  obtain ⟨hln, f1⟩ := hl
  have hlr : -1 ≤ l ∧ l < 12 := by
    rcases hln with ⟨a, _⟩ | ⟨a, _⟩ <;> omega
  refine gv_cb ⟨⟨by omega, by omega⟩, ⟨by omega, by omega⟩⟩ (fun cl => ?_) (fun cl => stuck τ1 f1 _ rfl (Or.inr ⟨hlt, l, hln, Or.inl ⟨by omega, rfl⟩⟩))
  have hl0 : 0 ≤ l ∧ l < S 7 0 := by
    rcases hln with ⟨a, _⟩ | ⟨a, _⟩ <;> omega
  obtain ⟨i1, i2, i3, i4, i5⟩ := cf_in hL hl0
  have hR1 : pRw τ1 pl S := pRw_fr hR (fun r hr => f1 r (by
    simp only [List.mem_cons, List.not_mem_nil, or_false]; omega))
  refine gv_ck hpl (gv_al (by omega) (gv_ck hpl (gv_al (by omega) ?_)))
  rw [hR1.2.2.2.2.1, hR1.2.2.2.2.2]
  refine gv_call (s_work (W := S 8) (N := nmv P) hpl ⟨i4.1, i4.2.1, by omega⟩ i4.2.2.1 i4.2.2.2 (fun i a b => hL.2.2.1 i a (by omega)) hR1.2.2.1 hN (nmC_fr hC f1 (by decide))) (fun v τ2 hh => gv_get ?_)
  obtain ⟨f2, hbv, q⟩ := hh
  have hbv' := hbv
  unfold bdd mxv at hbv'
  have f12 : gfr [38, -3701, -3702] τ τ2 := f1.trans f2
  have hR2 : pRw τ2 pl S := pRw_fr hR (fun r hr => f12 r (by
    simp only [List.mem_cons, List.not_mem_nil, or_false]; omega))
  rcases q with ⟨q1, q2⟩ | ⟨q1, _, q2⟩
  · rw [q2]
    refine gv_cz (by decide) (fun _ => gv_ck hpl (gv_al (by omega) ?_)) (fun g => absurd rfl g)
    rw [hR2.2.2.2.1]
    refine gv_cb ⟨⟨by omega, by omega⟩, ⟨by omega, by omega⟩⟩ (fun c3 => gv_ck hpl (gv_al (by omega) ?_)) (fun c3 => gv_put (gv_get ?_))
    · rw [hR2.2.2.2.1]
      have hstuck : bad D P (S 11 l) v → gv (gput (-2802) 3 (gret (0 : Int))) T τ2 (fun _ τ' => gfr wTr τ τ' ∧ ((∃ R, trR D S t 1 P R ∧ tC τ' R t ∧ pT R ∧ τ' (-2802) 0 = R 9 0 ∧ τ' (-2803) 0 = R 10 0 ∧ (0 ≤ R 9 0 ∧ R 9 0 ≤ 3) ∧ bdd (R 10 0)) ∨ (∃ P', (∀ f R, trR D S t f P' R → trR D S t (f + 1) P R) ∧ tC τ' P' t ∧ pT P' ∧ P' 9 0 = -1 ∧ P' 10 0 = -1 ∧ P' 3 0 = P 3 0 + 1 ∧ τ' (-2802) 0 = -1 ∧ τ' (-2803) 0 = -1))) := fun hb => stuck τ2 f12 _ rfl (Or.inr ⟨hlt, l, hln, Or.inr ⟨hl0.1, Or.inr ⟨v, q1, Or.inr ⟨c3, Or.inl ⟨hb, rfl⟩⟩⟩⟩⟩)
      unfold g_X6_letFall g_X6_letFall_30
      have hD2 : iSt τ2 := iSt_eq (f12.eq (by decide)) hD
      have h2 := h.fr f12 (by decide)
      refine gv_call (Q' := fun _ τ' => gfr wTr τ τ' ∧ ((∃ R, trR D S t 1 P R ∧ tC τ' R t ∧ pT R ∧ τ' (-2802) 0 = R 9 0 ∧ τ' (-2803) 0 = R 10 0 ∧ (0 ≤ R 9 0 ∧ R 9 0 ≤ 3) ∧ bdd (R 10 0)) ∨ (∃ P', (∀ f R, trR D S t f P' R → trR D S t (f + 1) P R) ∧ tC τ' P' t ∧ pT P' ∧ P' 9 0 = -1 ∧ P' 10 0 = -1 ∧ P' 3 0 = P 3 0 + 1 ∧ τ' (-2802) 0 = -1 ∧ τ' (-2803) 0 = -1))) ?_ (fun _ τ' hq => gv_ret hq)
      have h200 : τ2 (-200) 0 = D (-200) 0 := by rw [f12 _ (by decide), d2]
      have hst := hD.1
      have h200' : D (-200) 0 = τ (-200) 0 := by rw [d2]
      refine gv_cl (by omega) (fun c1 => hstuck (Or.inl c1)) (fun c1 => gv_get ?_)
      rw [h200]
      refine gv_ck (by unfold hf_inI; omega) (gv_cl (by omega) (fun c4 => hstuck (Or.inr (Or.inl c4))) (fun c4 => ?_))
      have p4 := hp.2.2.2.1
      have p1 := hp.1
      have hk3 : 0 ≤ S 11 l ∧ S 11 l < 3 := by omega
      refine gv_rd (d_X1_canFall_o29 (k := S 11 l) (s := v) (by omega) (by omega) hD2.1 (fun k a b => by rw [h2.2.2.2.1 k a b]; have := p4 k a b; omega) (by rw [h2.2.2.2.2.1]; omega)) ?_
      rw [h2.2.2.2.1 (S 11 l) hk3.1 hk3.2, h2.2.2.2.2.1, h200]
      by_cases cf : (0 ≤ S 11 l ∧ S 11 l < 3) ∧ (1 ≤ v ∧ v ≤ D (-200) 0) ∧ 0 < P 2 (S 11 l) ∧ P 3 0 < 200
      · rw [if_pos cf]
        refine gv_cz (by decide) (fun _ => gv_call (s_letFallC (D := D) h2 hp hD2 ht hk3 (by omega) cf.2.2.2 (by rw [f12 3 (by decide)]; exact d3) (by rw [f12 5 (by decide)]; exact d5) (by rw [f12 (-204) (by decide)]; exact d4) (by rw [f12 (-205) (by decide)]; exact d6)) (fun _ τ3 h3 => gv_ret ?_)) (fun g => absurd (by decide) g)
        obtain ⟨f3, h3⟩ := h3
        have hfr := fal_r (D := D) (P := P) (t := t) (k := S 11 l) (s := v)
        have hDi : iSt D → True := fun _ => trivial
        have hDD : pT (fal D t P (S 11 l) v) := by
          have hD' : iSt τ := hD
          obtain ⟨q0, q1', q2', q3', q4', q5', q6', q7', q8', _, _⟩ := hfr
          obtain ⟨a1, a2, a3, a4, a5, a6, a7⟩ := hp
          have hb := brk01 (D := D) (t := t) (k := S 11 l) (s := v)
          have hd := hD.2.1 (S 11 l) hk3.1 hk3.2
          rw [← d3, ← d5] at hd
          have h204 := hD.2.2.2.1
          have h205 := hD.2.2.2.2.1
          rw [← d4] at h204
          rw [← d6] at h205
          have hmul : 0 ≤ D (-205) 0 * v ∧ D (-205) 0 * v ≤ 9 * 40 := ⟨Int.mul_nonneg h205.1 (by omega), Int.mul_le_mul h205.2 (by omega) (by omega) (by decide)⟩
          have hpp : 0 ≤ (if brk D t (S 11 l) v = 0 then 0 else D 5 (S 11 l)) ∧ (if brk D t (S 11 l) v = 0 then 0 else D 5 (S 11 l)) ≤ 99 := by split <;> omega
          have hk4 := a4 (S 11 l) hk3.1 hk3.2
          refine ⟨by rw [q3']; omega, ?_, ?_, fun j b1 b2 => ?_, by rw [q4', q3']; omega, by rw [q5', q3']; omega, fun i b1 b2 => ?_⟩
          · rw [q0]; split <;> omega
          · rw [q1']; split <;> omega
          · rw [q2']
            split
            · omega
            · exact a4 j b1 b2
          · rw [q3'] at b2
            rw [q6', q7', q8']
            by_cases c : i = P 3 0
            · rw [if_pos c, if_pos c, if_pos c]; exact ⟨hk3, by omega, hb⟩
            · rw [if_neg c, if_neg c, if_neg c]; exact a7 i b1 (by omega)
        refine ⟨(f12.mono (by decide)).trans (f3.mono (by decide)), Or.inr ⟨fal D t P (S 11 l) v, fun f R hfR => Or.inr ⟨hlt, l, hln, Or.inr ⟨hl0.1, Or.inr ⟨v, q1, Or.inr ⟨c3, Or.inr ⟨fun hb => ?_, hfR⟩⟩⟩⟩⟩, h3, hDD, ?_, ?_, hfr.2.2.2.1, ?_, ?_⟩⟩
        · unfold bad at hb; omega
        · rw [hfr.2.2.2.2.2.2.2.2.2.1]; exact h9
        · rw [hfr.2.2.2.2.2.2.2.2.2.2]; exact h10
        · rw [f3 _ (by decide), f12 _ (by decide)]; exact e2
        · rw [f3 _ (by decide), f12 _ (by decide)]; exact e3
      · rw [if_neg cf]
        refine gv_cz (by decide) (fun g => absurd rfl g) (fun _ => hstuck ?_)
        unfold bad
        omega
    · have hs : S 11 l = 3 := by omega
      rw [gup_ne (by decide), f12 (-2908) (by decide), h.1]
      refine gv_ck (by unfold hf_inI; omega) (gv_ck ⟨bdd_L hbv, by unfold hf_inL; omega⟩ (gv_let (gv_put (gv_ret ?_))))
      have ew : (if ¬ v = t then (2 : Int) else 1) = if v = t then 1 else 2 := by
        by_cases c : v = t
        · rw [if_neg (fun g => g c), if_pos c]
        · rw [if_pos c, if_neg c]
      rw [ew]
      generalize hσ : gup (gup τ2 (-2803) 0 v) (-2802) 0 (if v = t then 1 else 2) = σ
      have hf : gfr [38, -3701, -3702, -2802, -2803] τ σ := by rw [← hσ]; exact ((f12.mono (by decide)).up (by decide)).up (by decide)
      refine ⟨hf.mono (by decide), Or.inl ⟨gup (gup P 10 0 v) 9 0 (if v = t then 1 else 2), Or.inr ⟨hlt, l, hln, Or.inr ⟨hl0.1, Or.inr ⟨v, q1, Or.inl ⟨hs, rfl⟩⟩⟩⟩, tC_up (tC_up (h.fr hf (by decide)) (by decide)) (by decide), pT_up (pT_up hp (by decide)) (by decide), ?_, ?_, ?_, ?_⟩⟩
      · rw [← hσ, gup_at, gup_at]
      · rw [← hσ, gup_ne (by decide), gup_at, gup_ne (by decide), gup_at]
      · rw [gup_at]; split <;> omega
      · rw [gup_ne (by decide), gup_at]; exact hbv
  · rw [q2]
    exact gv_cz (by decide) (fun g => absurd g (by decide)) (fun _ => stuck τ2 f12 _ rfl (Or.inr ⟨hlt, l, hln, Or.inr ⟨hl0.1, Or.inl ⟨q1, rfl⟩⟩⟩))
end
