/-! TRIAL: the class works an expression out -/
def nmB (N : Int → Int) : Prop := ∀ i : Int, 0 ≤ i → i ≤ 8 → -1000 ≤ N i ∧ N i ≤ 1000
/-- the names as the class has them -/
def nmC (τ : gN) (N : Int → Int) : Prop := (0 ≤ τ (-2911) 0 ∧ τ (-2911) 0 ≤ 200) ∧ τ (-2909) 0 = N 0 ∧ τ (-2910) 0 = N 1 ∧ N 2 = N 1 - N 0 ∧ τ (-2911) 0 = N 3 ∧ (0 < τ (-2911) 0 → τ 32 (τ (-2911) 0 - 1) = N 4 ∧ τ 33 (τ (-2911) 0 - 1) = N 5) ∧ (τ (-2911) 0 = 0 → N 4 = 0 ∧ N 5 = 0) ∧ τ 30 0 = N 6 ∧ τ 30 1 = N 7 ∧ τ 30 2 = N 8
theorem evs_bd {w : Int} {N : Int → Int} {st st' : List Int} (hN : nmB N) (hw : wdO w) (hn : need w ≤ st.length) (hb : bdL st) (h : evs w N st = some st') : bdL st' := by
  have cons : ∀ (v : Int) (L : List Int), bdd v → bdL L → bdL (v :: L) := fun v L hv hL x hx => by
    rcases List.mem_cons.mp hx with e | e
    · rw [e]; exact hv
    · exact hL x e
  have drp : ∀ n : Nat, bdL (st.drop n) := fun n x hx => hb x (List.mem_of_mem_drop hx)
  unfold wdO at hw
  unfold evs at h
  by_cases c1 : w < 1000
  · rw [if_pos c1] at h
    rw [← Option.some.inj h]; exact cons _ _ (by unfold bdd mxv; omega) hb
  rw [if_neg c1] at h
  by_cases c2 : 1012 ≤ w ∧ w ≤ 1020
  · rw [if_pos c2] at h
    have := hN (w - 1012) (by omega) (by omega)
    rw [← Option.some.inj h]; exact cons _ _ (by unfold bdd mxv; omega) hb
  rw [if_neg c2] at h
  by_cases c3 : w = 1009
  · rw [if_pos c3] at h
    rw [← Option.some.inj h]; exact cons _ _ (by unfold bdd mxv; split <;> omega) (drp 1)
  rw [if_neg c3] at h
  unfold need at hn
  rw [if_neg (by omega), if_neg c3] at hn
  match ho : opv (w - 1000) (st.getD 1 0) (st.getD 0 0) with
  | none => rw [ho] at h; exact absurd h (by simp)
  | some v =>
    rw [ho] at h
    rw [← Option.some.inj h]
    exact cons _ _ (opv_bd (bdL_get hb (by omega)) (bdL_get hb (by omega)) ho) (drp 2)
theorem es_bd {W N : Int → Int} {a : Int} (hN : nmB N) : ∀ (k : Nat) (st : List Int), wf W a k → (∀ j : Nat, j < k → wdO (W (a + j))) → es W N a k = some st → bdL st := by
  intro k
  induction k with
  | zero => intro st _ _ h; rw [← Option.some.inj h]; intro x hx; exact absurd hx (by simp)
  | succ k ih =>
    intro st hw ho h
    have h' : (es W N a k).bind (evs (W (a + k)) N) = some st := h
    match hq : es W N a k with
    | none => rw [hq] at h'; exact absurd h' (by simp)
    | some s0 =>
      rw [hq] at h'
      have h3 : evs (W (a + k)) N s0 = some st := h'
      have hw' : wf W a k := fun j hj => hw j (by omega)
      exact evs_bd hN (ho k (by omega)) (by rw [es_len k s0 hw' hq]; exact hw k (by omega)) (ih s0 hw' (fun j hj => ho j (by omega)) hq) h3
section
variable {T : gT} {ν τ : gN} {N W : Int → Int} {pl : Int}
theorem nmC_fr {L : List Int} {τ' : gN} (h : nmC τ N) (hf : gfr L τ τ') (hd : ∀ x ∈ ([-2909, -2910, -2911, 30, 32, 33] : List Int), x ∉ L) : nmC τ' N := by
  unfold nmC
  rw [hf (-2909) (hd _ (by decide)), hf (-2910) (hd _ (by decide)), hf (-2911) (hd _ (by decide)), hf 30 (hd _ (by decide)), hf 32 (hd _ (by decide)), hf 33 (hd _ (by decide))]
  exact h
theorem d_X7_valueOfName {k : Int} (hk : 12 ≤ k ∧ k ≤ 20) (hN : nmB N) (h : nmC τ N) : gd (g_X7_valueOfName k) T τ (N (k - 12)) := by
  obtain ⟨hc, h0, h1, h2, h3, h4, h5, h6, h7, h8⟩ := h
  have b : ∀ i : Int, 0 ≤ i → i ≤ 8 → hf_inI (N i) := fun i a c => by have := hN i a c; unfold hf_inI; omega
  have hI : hf_inI k := by unfold hf_inI; omega
  unfold g_X7_valueOfName g_X1_lastStep_o29 g_X1_lastBroke_o29
  refine gd_ck hI (gd_it (fun c => gd_get ?_) (fun c12 => gd_it (fun c => gd_get ?_) (fun c13 => gd_it (fun c => gd_get (gd_get ?_)) (fun c14 => gd_it (fun c => gd_get ?_) (fun c15 => gd_it (fun c => gd_rd (u := N 4) (gd_get ?_) ?_) (fun c16 => gd_it (fun c => gd_rd (u := N 5) (gd_get ?_) ?_) (fun c17 => gd_it (fun c => gd_al (by decide) ?_) (fun c18 => gd_it (fun c => gd_al (by decide) ?_) (fun c19 => gd_al (by decide) ?_)))))))))
  · rw [h0, c]; exact gd_ck (b 0 (by decide) (by decide)) gd_ret
  · rw [h1, c]; exact gd_ck (b 1 (by decide) (by decide)) gd_ret
  · rw [h0, h1, ← h2, c]; exact gd_ck (b 2 (by decide) (by decide)) gd_ret
  · rw [h3, c]; exact gd_ck (b 3 (by decide) (by decide)) gd_ret
  · refine gd_cz ⟨by omega, by omega⟩ (fun cz => ?_) (fun cz => gd_get (gd_al (by omega) ?_))
    · rw [(h5 (by omega)).1]; exact gd_ret
    · rw [(h4 (by omega)).1]; exact gd_ret
  · rw [c]; exact gd_ck (b 4 (by decide) (by decide)) gd_ret
  · refine gd_cz ⟨by omega, by omega⟩ (fun cz => ?_) (fun cz => gd_get (gd_al (by omega) ?_))
    · rw [(h5 (by omega)).2]; exact gd_ret
    · rw [(h4 (by omega)).2]; exact gd_ret
  · rw [c]; exact gd_ck (b 5 (by decide) (by decide)) gd_ret
  · rw [h6, c]; exact gd_ck (b 6 (by decide) (by decide)) gd_ret
  · rw [h7, c]; exact gd_ck (b 7 (by decide) (by decide)) gd_ret
  · rw [h8, show k - 12 = 8 by omega]; exact gd_ck (b 8 (by decide) (by decide)) gd_ret
/-- the class's answer -/
theorem s_work {a c : Int} (hpl : pl = 18 ∨ pl = 23) (hac : 0 ≤ a ∧ a < c ∧ c ≤ 64) (hwf : wf W a (c - a).toNat) (hlen : (sn W a (c - a).toNat).length = 1) (hwd : ∀ i : Int, 0 ≤ i → i < c → wdO (W i)) (hW : ν (pl + 4) = W) (hN : nmB N) (hC : nmC ν N) : gv (g_X7_work pl a c) T ν (fun r ν' => gfr [38, -3701, -3702] ν ν' ∧ bdd r ∧ ((evv W N a c = some r ∧ ν' (-3702) 0 = 0) ∨ (evv W N a c = none ∧ r = 0 ∧ ν' (-3702) 0 = 1))) := by
  unfold g_X7_work g_X7_work_13
  refine gv_put (gv_put ?_)
  have hf0 : gfr [38, -3701, -3702] ν (gup (gup ν (-3701) 0 0) (-3702) 0 0) := ((gfr.refl _ _).up (by decide)).up (by decide)
  have e0 : gup (gup ν (-3701) 0 0) (-3702) 0 0 (-3702) 0 = 0 := gup_at _ _ _ _
  have e1 : gup (gup ν (-3701) 0 0) (-3702) 0 0 (-3701) 0 = 0 := by rw [gup_ne (by decide), gup_at]
  generalize gup (gup ν (-3701) 0 0) (-3702) 0 0 = σ0 at hf0 e0 e1 ⊢
  refine gv_fx (fun (x : Int) τ => ∃ k : Nat, x = a + k ∧ k ≤ (c - a).toNat ∧ gfr [38, -3701, -3702] ν τ ∧ ((∃ st, es W N a k = some st ∧ τ (-3702) 0 = 0 ∧ stG τ st) ∨ (es W N a k = none ∧ τ (-3702) 0 = 1))) (fun x _ => (c - x).toNat) ⟨0, by omega, by omega, hf0, Or.inl ⟨[], rfl, e0, e1, fun j hj => absurd hj (Nat.not_lt_zero _)⟩⟩ (by omega) ?_
  intro rec x τ hI hrec
  obtain ⟨k, rfl, hk, hf, hst⟩ := hI
  have hev : evv W N a c = (es W N a (c - a).toNat).map (fun st => st.getD 0 0) := rfl
  have h99n : es W N a k = none → τ (-3702) 0 = 1 → gv g_X7_work_99 T τ (fun r ν' => gfr [38, -3701, -3702] ν ν' ∧ bdd r ∧ ((evv W N a c = some r ∧ ν' (-3702) 0 = 0) ∨ (evv W N a c = none ∧ r = 0 ∧ ν' (-3702) 0 = 1))) := fun g1 g2 => by
    unfold g_X7_work_99
    refine gv_get ?_
    rw [g2]
    refine gv_cz (by decide) (fun g => absurd g (by decide)) (fun _ => gv_ret ⟨hf, by unfold bdd mxv; omega, Or.inr ⟨?_, rfl, g2⟩⟩)
    have := es_none g1 ((c - a).toNat - k)
    rw [show k + ((c - a).toNat - k) = (c - a).toNat by omega] at this
    rw [hev, this]; rfl
  unfold gB_X7_work_13
  refine gv_cb ⟨⟨by omega, by omega⟩, ⟨by omega, by omega⟩⟩ (fun cx => ?_) (fun cx => gv_get ?_)
  · have ek : k = (c - a).toNat := by omega
    rcases hst with ⟨st, g1, g2, g3⟩ | ⟨g1, g2⟩
    · have hl := es_len k st (by rw [ek]; exact hwf) g1
      have hb := es_bd hN k st (by rw [ek]; exact hwf) (fun j hj => hwd _ (by omega) (by omega)) g1
      rw [ek, hlen] at hl
      unfold g_X7_work_99
      refine gv_get ?_
      rw [g2]
      refine gv_cz (by decide) (fun _ => gv_call (s_X7_pop g3 (by omega)) (fun r τ' hh => gv_ret ?_)) (fun g => absurd rfl g)
      obtain ⟨rfl, f1, _⟩ := hh
      refine ⟨hf.trans (f1.mono (by decide)), bdL_get hb (by omega), Or.inl ⟨?_, by rw [f1 _ (by decide)]; exact g2⟩⟩
      rw [hev, ← ek, g1]; rfl
    · exact h99n g1 g2
  · rcases hst with ⟨st, g1, g2, g3⟩ | ⟨g1, g2⟩
    · have hw' : wf W a k := fun j hj => hwf j (by omega)
      have hl := es_len k st hw' g1
      have hb := es_bd hN k st hw' (fun j hj => hwd _ (by omega) (by omega)) g1
      have hsl := sn_len W a k
      have hnd := hwf k (by omega)
      have hwk := hwd (a + k) (by omega) (by omega)
      rw [← hl] at hnd
      rw [g2]
      refine gv_cz (by decide) (fun g => absurd rfl g) (fun _ => gv_ck hpl (gv_al (by omega) ?_))
      have eW : τ (pl + 4) = W := by rw [hf _ (by rcases hpl with e | e <;> subst e <;> decide)]; exact hW
      rw [eW]
      have ees : es W N a (k + 1) = evs (W (a + k)) N st := by show (es W N a k).bind (evs (W (a + k)) N) = _; rw [g1]; rfl
      have hgo : ∀ τ', evQ τ (evs (W (a + k)) N st) τ' → gv (g_X7_work_93 rec pl c (a + k)) T τ' (fun r ν' => gfr [38, -3701, -3702] ν ν' ∧ bdd r ∧ ((evv W N a c = some r ∧ ν' (-3702) 0 = 0) ∨ (evv W N a c = none ∧ r = 0 ∧ ν' (-3702) 0 = 1))) := fun τ' hq => by
        unfold g_X7_work_93
        refine gv_let (hrec _ τ' ⟨k + 1, by omega, by omega, hf.trans hq.1, ?_⟩ (by omega))
        rw [ees]; exact hq.2
      generalize W (a + k) = w at hwk hnd hgo ⊢
      have hpush : ∀ v : Int, evs w N st = some (v :: st) → bdd v → gv (gbd (g_X7_push v) (fun _ => g_X7_work_93 rec pl c (a + k))) T τ (fun r ν' => gfr [38, -3701, -3702] ν ν' ∧ bdd r ∧ ((evv W N a c = some r ∧ ν' (-3702) 0 = 0) ∨ (evv W N a c = none ∧ r = 0 ∧ ν' (-3702) 0 = 1))) := fun v hv hbv => by
        refine gv_call (s_push2 (o := some v) g3 g2 (by omega) (by unfold bdd mxv at hbv; omega) (fun _ => rfl) (fun g => absurd hbv g)) (fun _ τ' hq => hgo τ' ⟨hq.1, ?_⟩)
        rw [hv]
        rcases hq.2 with ⟨v', q1, q2, q3⟩ | ⟨q1, _⟩
        · exact Or.inl ⟨_, by rw [Option.some.inj q1], q2, q3⟩
        · exact absurd q1 (by simp)
      unfold wdO at hwk
      refine gv_cb ⟨⟨by omega, by omega⟩, ⟨by omega, by omega⟩⟩ (fun c1 => gv_rd (d_X9_isName (by omega)) ?_) (fun c1 => gv_ck (by unfold hf_inI; omega) (hpush w (by unfold evs; rw [if_pos (by omega)]) (by unfold bdd mxv; omega)))
      by_cases cn : 12 ≤ w - 1000 ∧ w - 1000 ≤ 20
      · rw [if_pos cn]
        refine gv_cz (by decide) (fun g => absurd g (by decide)) (fun _ => gv_rd (d_X7_valueOfName cn hN (nmC_fr hC hf (by decide))) ?_)
        have hb8 := hN (w - 1000 - 12) (by omega) (by omega)
        refine hpush _ ?_ (by unfold bdd mxv; omega)
        unfold evs
        rw [if_neg (by omega), if_pos (by omega), show w - 1012 = w - 1000 - 12 by omega]
      · rw [if_neg cn]
        refine gv_cz (by decide) (fun _ => ?_) (fun g => absurd rfl g)
        have ew : 1000 + (w - 1000) = w := by omega
        refine gv_call (s_operate (N := N) g3 g2 (by omega) hb (by omega) (by rw [ew]; exact hnd)) (fun _ τ' hq => hgo τ' ?_)
        rw [ew] at hq
        exact hq
    · rw [g2]
      exact gv_cz (by decide) (fun _ => h99n g1 g2) (fun g => absurd (by decide) g)
end
