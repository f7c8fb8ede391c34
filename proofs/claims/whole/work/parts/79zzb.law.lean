/-! THE LAW'S LOOP -/
section
variable {α : Type} {T : gT} {ν : gN} {Q : α → gT → gN → Prop}
theorem gw_sg {i : Int} {f : Int → gM α} (hi : 0 ≤ i ∧ i < (T.2 0).2) (h : gw (f (ν 0 i)) T ν Q) : gw (gsg i f) T ν Q := by
  obtain ⟨r, T', ν', h1, h2⟩ := h
  exact ⟨r, T', ν', by unfold gsg; rw [if_pos hi]; exact h1, h2⟩
theorem gw_sn {f : Int → gM α} (h : gw (f ((T.2 0).2 : Int)) T ν Q) : gw (gsn f) T ν Q := h
theorem gw_cl {a b : Int} {c : Prop} [Decidable c] {k1 k2 : gM α} (hi : (-9223372036854775808 ≤ a ∧ a ≤ 9223372036854775807) ∧ (-9223372036854775808 ≤ b ∧ b ≤ 9223372036854775807)) (h1 : c → gw k1 T ν Q) (h2 : ¬ c → gw k2 T ν Q) : gw (gcl a b c k1 k2) T ν Q := by
  obtain ⟨r, T', ν', g1, g2⟩ := gw_it h1 h2
  exact ⟨r, T', ν', by unfold gcl; rw [if_pos hi]; exact g1, g2⟩
end
theorem and_inI (a b : Int) : -2147483648 ≤ hf_and a b ∧ hf_and a b ≤ 2147483647 := by
  unfold hf_and
  generalize (Int32.ofInt a &&& Int32.ofInt b) = x
  have h1 := Int32.minValue_le_toInt x
  have h2 := Int32.toInt_lt x
  have : Int32.minValue.toInt = -2147483648 := by decide
  omega
def scr (L : Nat) (T : gT) (ν : gN) : Prop := (T.2 0).2 = L ∧ ∀ i : Int, 0 ≤ i → i < L → inI (ν 0 i)
def one (r : Int) (_ : gT) (_ : gN) : Prop := r = 1
section
variable {L c : Nat} {T : gT} {ν : gN} {x : Int} {rec : Int → gM Int}
def nxt (L c : Nat) (x : Int) (rec : Int → gM Int) : Prop := ∀ U τ, iAll (c + 1) U τ → scr L U τ → gw (rec (x + 6)) U τ one
theorem l_fin (hn : nxt L c x rec) (hs : scr L T ν) {r : Int} {T' : gT} {ν' : gN} (h : aft c T ν r T' ν') : gw (g_L_law_1265 rec x) T' ν' one := by
  unfold g_L_law_1265
  refine gw_let (hn T' ν' h.1 ⟨by rw [h.2.2]; exact hs.1, fun i a b => ?_⟩)
  rw [h.2.1]; exact hs.2 i a b
theorem l_pair {m1 m2 : gM Int} {K : Int → gM Int} (hn : nxt L c x rec) (hs : scr L T ν) (hp : gp m1 m2 T ν (fun r T' ν' => inI r ∧ aft c T ν r T' ν')) (hK : ∀ (v : Int) (T1 : gT) (ν1 : gN), ν1 0 = ν 0 → T1.2 0 = T.2 0 → gw (gbd m2 (fun w => gcb v w (v = w) (g_L_law_1265 rec x) (gret 0))) T1 ν1 one → gw (K v) T1 ν1 one) : gw (gbd m1 K) T ν one := by
  refine gw_call hp (fun v T1 ν1 q => hK v T1 ν1 q.1.1 q.1.2 ?_)
  refine gw_call (gv.w (Q' := fun r2 T2 ν2 => T2 = T1 ∧ r2 = v ∧ inI v ∧ aft c T ν v T1 ν2) (q.2.mono (fun r2 ν2 w => ⟨rfl, w⟩))) (fun r2 T2 ν2 w => ?_)
  obtain ⟨e1, e2, w1, w2⟩ := w
  rw [e1, e2]
  exact gw_cb ⟨w1, w1⟩ (fun _ => l_fin hn hs w2) (fun g => absurd rfl g)
theorem l_pairl {m1 m2 : gM Int} {K : Int → gM Int} (hn : nxt L c x rec) (hs : scr L T ν) (hp : gp m1 m2 T ν (fun r T' ν' => lgR r ∧ aft c T ν r T' ν')) (hK : ∀ (v : Int) (T1 : gT) (ν1 : gN), ν1 0 = ν 0 → T1.2 0 = T.2 0 → gw (gbd m2 (fun w => gcl v w (v = w) (g_L_law_1265 rec x) (gret 0))) T1 ν1 one → gw (K v) T1 ν1 one) : gw (gbd m1 K) T ν one := by
  refine gw_call hp (fun v T1 ν1 q => hK v T1 ν1 q.1.1 q.1.2 ?_)
  refine gw_call (gv.w (Q' := fun r2 T2 ν2 => T2 = T1 ∧ r2 = v ∧ lgR v ∧ aft c T ν v T1 ν2) (q.2.mono (fun r2 ν2 w => ⟨rfl, w⟩))) (fun r2 T2 ν2 w => ?_)
  obtain ⟨e1, e2, w1, w2⟩ := w
  rw [e1, e2]
  exact gw_cl ⟨w1, w1⟩ (fun _ => l_fin hn hs w2) (fun g => absurd rfl g)
theorem look_fin (hc : c ≤ 600) (h : iAll c T ν) {r v : Int} {T1 : gT} {ν2 : gN} (q : lkQ T ν r T1 v ν2) : aft c T ν r T1 ν2 := by
  obtain ⟨m1, m2, m3, m4, m5, m6⟩ := h.room hc
  obtain ⟨_, _, _, q2, q3, q4, q5⟩ := q
  have hB := h.2.2.2.2.2.2.1
  have hK := h.2.2.2.2.2.2.2.1
  have hLs := h.2.2.2.2.2.2.2.2.1
  have hR := h.2.2.2.2.2.2.2.2.2
  have e : ∀ b ∈ aFx ++ aBs ++ aDy ++ [-5101, 92, 0], ν2 b = ν b := fun b hb => q5 b (by have := aFx_104 b hb; omega) ((by decide : ∀ b ∈ aFx ++ aBs ++ aDy ++ [-5101, 92, 0], b ∉ ([104, -6902] : List Int)) b hb)
  have dy : ∀ b : Int, 104 < b → b ≤ T.1 → ν2 b = ν b := fun b b1 b2 => q5 b b2 (by simp only [List.mem_cons, List.not_mem_nil, or_false, not_or]; omega)
  have hls := iLs_eq q2 (e (-5100) (by decide)) (e (-5101) (by decide)) (fun g => dy _ g (by have := hLs.1.2.1; omega)) hLs
  have hrO : ∀ b, rO ν2 b ↔ rO ν b := fun b => by unfold rO; rw [e 40 (by decide)]
  have hwO : ∀ b, wkO ν2 b ↔ wkO ν b := fun b => by unfold wkO; rw [e (-4600) (by decide), e (-4601) (by decide), e (-4602) (by decide)]
  have hb1 : iBs T1 ν2 := iBs_eq q2 (fun b hb => e b (List.mem_append_left _ (List.mem_append_left _ (List.mem_append_right _ hb)))) (by rw [e 92 (by decide)]; exact hB.2.2.2.2.2.2.1) (fun b hb => by
    have g := rO_104 hB hb
    exact dy b g.1 g.2.1) hB
  have ew : wks3 ν2 = wks3 ν := by unfold wks3; rw [e (-4600) (by decide)]
  have eb : bsP ν2 = bsP ν := by unfold bsP; rw [e 40 (by decide)]
  exact ⟨iAll_T h q2 (by omega) (fun b hb => e b (List.mem_append_left _ (List.mem_append_left _ (List.mem_append_left _ hb)))) hb1 (iWk_eq q2 (e _ (by decide)) (e _ (by decide)) (e _ (by decide)) hK) hls.1 (fun b hb hw => hR.2.1 b ((hrO b).mp hb) ((hwO b).mp hw)) (by rw [e _ (by decide)]) (by rw [e _ (by decide)]; omega) (by rw [hls.2, ew, eb]; omega), e 0 (by decide), q2.2 0 (by omega)⟩
theorem l_look {k w : Int} {K : Int → gM Int} (hn : nxt L c x rec) (hs : scr L T ν) (hc : c ≤ 600) (a1 : inI k) (a2 : inI w) (h : iAll c T ν) (hK : ∀ (v : Int) (T1 : gT) (ν1 : gN), ν1 0 = ν 0 → T1.2 0 = T.2 0 → gw (gbd (g_X12_look k w) (fun v441 => gbd (g_X12_thrown) (fun v447 => gcb v447 v (v447 = v) (gcz v (¬ (v = 0)) (g_L_law_1265 rec x) (gal 104 1 0 (fun v464 => gck (hf_inI v441) (gcl v464 v441 (v464 = v441) (g_L_law_1265 rec x) (gret 0))))) (gret 0)))) T1 ν1 one → gw (K v) T1 ν1 one) : gw (gbd (g_L_look k w) K) T ν one := by
  obtain ⟨m1, m2, m3, m4, m5, m6⟩ := h.room hc
  obtain ⟨v, T1, ν1, h1, h2⟩ := c_look (T := T) (ν := ν) a1 a2 h.1 m1 (by omega) m6
  have hz := z_g_L_look k w T ν v T1 ν1 h1
  have hq : gw (g_L_look k w) T ν (fun r U τ => r = v ∧ U = T1 ∧ τ = ν1) := ⟨v, T1, ν1, h1, rfl, rfl, rfl⟩
  refine gw_call hq (fun r U τ e => ?_)
  obtain ⟨rfl, rfl, rfl⟩ := e
  refine hK r U τ hz.1 hz.2 ?_
  refine gw_call (gv.w (Q' := fun v2 T2 ν2 => T2 = U ∧ lkQ T ν r U v2 ν2) (h2.mono (fun v2 ν2 w => ⟨rfl, w⟩))) (fun v2 T2 ν2 w => ?_)
  obtain ⟨rfl, q⟩ := w
  have hf := look_fin hc h q
  obtain ⟨q1, q2, q3, _⟩ := q
  unfold g_X12_thrown
  refine gw_call (Q' := fun u T3 ν3 => u = r ∧ T3 = T2 ∧ ν3 = ν2) (gw_get (gw_ret ⟨q1, rfl, rfl⟩)) (fun u T3 ν3 e => ?_)
  obtain ⟨rfl, rfl, rfl⟩ := e
  refine gw_cb ⟨by omega, by omega⟩ (fun _ => gw_cz (by omega) (fun _ => l_fin hn hs hf) (fun g => gw_al (by decide) ?_)) (fun g => absurd rfl g)
  have q4 := q3 (by omega)
  rw [q4.1]
  exact gw_ck (by unfold hf_inI; omega) (gw_cl ⟨by omega, by omega⟩ (fun _ => l_fin hn hs hf) (fun g => absurd rfl g))
theorem law_step (hL : L ≤ 3072) (hn : nxt L c x rec) (hs : scr L T ν) (hc : c ≤ 600) (h : iAll c T ν) (hx : 0 ≤ x ∧ x ≤ (L : Int) - 6) : gw (gB_L_law_23 rec x) T ν one := by
  have hi : ∀ j : Int, 0 ≤ j → j ≤ 5 → 0 ≤ x + j ∧ x + j < (T.2 0).2 := fun j a b => by rw [hs.1]; omega
  have ha : ∀ j : Int, 0 ≤ j → j ≤ 5 → inI (ν 0 (x + j)) := fun j a b => hs.2 _ (by omega) (by omega)
  have i1 := hi 1 (by decide) (by decide)
  have i2 := hi 2 (by decide) (by decide)
  have i3 := hi 3 (by decide) (by decide)
  have i4 := hi 4 (by decide) (by decide)
  have i5 := hi 5 (by decide) (by decide)
  have a1 := ha 1 (by decide) (by decide)
  have a2 := ha 2 (by decide) (by decide)
  have a3 := ha 3 (by decide) (by decide)
  have a4 := ha 4 (by decide) (by decide)
  have a5 := ha 5 (by decide) (by decide)
  have hl := hs.1
  unfold gB_L_law_23
  refine gw_sn ?_
  rw [hl]
  refine gw_cb ⟨by omega, by omega⟩ (fun g => by omega) (fun _ => gw_sg (by rw [hl]; omega) (gw_ck (and_inI _ _) ?_))
  refine gw_it (fun _ => ?_) (fun _ => gw_it (fun _ => ?_) (fun _ => gw_it (fun _ => ?_) (fun _ => gw_it (fun _ => ?_) (fun _ => gw_it (fun _ => ?_) (fun _ => gw_it (fun _ => ?_) (fun _ => gw_it (fun _ => ?_) (fun _ => gw_it (fun _ => ?_) (fun _ => gw_it (fun _ => ?_) (fun _ => gw_it (fun _ => ?_) (fun _ => gw_it (fun _ => ?_) (fun _ => gw_it (fun _ => ?_) (fun _ => gw_it (fun _ => ?_) (fun _ => gw_it (fun _ => ?_) (fun _ => gw_it (fun _ => ?_) (fun _ => gw_it (fun _ => ?_) (fun _ => gw_it (fun _ => ?_) (fun _ => gw_it (fun _ => ?_) (fun _ => gw_it (fun _ => ?_) (fun _ => gw_it (fun _ => ?_) (fun _ => gw_it (fun _ => ?_) (fun _ => gw_it (fun _ => ?_) (fun _ => gw_it (fun _ => ?_) (fun _ => gw_it (fun _ => ?_) (fun _ => gw_it (fun _ => ?_) (fun _ => gw_it (fun _ => ?_) (fun _ => gw_it (fun _ => ?_) (fun _ => gw_it (fun _ => ?_) (fun _ => gw_it (fun _ => ?_) (fun _ => gw_it (fun _ => ?_) (fun _ => ?_))))))))))))))))))))))))))))))
  · exact gw_sg i1 (gw_sg i2 (gw_sg i3 (gw_sg i4 (gw_sg i5 (l_pair hn hs (p_feed h) (fun v T1 ν1 e1 e2 hq => gw_sg (by rw [e2]; exact i1) (gw_sg (by rw [e2]; exact i2) (gw_sg (by rw [e2]; exact i3) (gw_sg (by rw [e2]; exact i4) (gw_sg (by rw [e2]; exact i5) (by rw [e1]; exact hq)))))))))))
  · exact gw_sg i1 (l_pair hn hs (p_stair a1 h) (fun v T1 ν1 e1 e2 hq => gw_sg (by rw [e2]; exact i1) (by rw [e1]; exact hq)))
  · exact gw_sg i1 (gw_sg i2 (gw_sg i3 (gw_sg i4 (l_pair hn hs (p_kind a1 a2 a3 a4 h) (fun v T1 ν1 e1 e2 hq => gw_sg (by rw [e2]; exact i1) (gw_sg (by rw [e2]; exact i2) (gw_sg (by rw [e2]; exact i3) (gw_sg (by rw [e2]; exact i4) (by rw [e1]; exact hq)))))))))
  · exact gw_sg i1 (gw_sg i2 (l_pair hn hs (p_cost a1 a2 h) (fun v T1 ν1 e1 e2 hq => gw_sg (by rw [e2]; exact i1) (gw_sg (by rw [e2]; exact i2) (by rw [e1]; exact hq)))))
  · exact gw_sg i1 (gw_sg i2 (l_pair hn hs (p_weight a1 a2 h) (fun v T1 ν1 e1 e2 hq => gw_sg (by rw [e2]; exact i1) (gw_sg (by rw [e2]; exact i2) (by rw [e1]; exact hq)))))
  · exact gw_sg i1 (gw_sg i2 (l_look hn hs hc a1 a2 h (fun v T1 ν1 e1 e2 hq => gw_sg (by rw [e2]; exact i1) (gw_sg (by rw [e2]; exact i2) (by rw [e1]; exact hq)))))
  · exact gw_sg i1 (l_pair hn hs (p_likely a1 h) (fun v T1 ν1 e1 e2 hq => gw_sg (by rw [e2]; exact i1) (by rw [e1]; exact hq)))
  · exact gw_sg i1 (l_pair hn hs (p_plan a1 h) (fun v T1 ν1 e1 e2 hq => gw_sg (by rw [e2]; exact i1) (by rw [e1]; exact hq)))
  · exact gw_sg i1 (l_pair hn hs (p_fault a1 h) (fun v T1 ν1 e1 e2 hq => gw_sg (by rw [e2]; exact i1) (by rw [e1]; exact hq)))
  · exact gw_sg i1 (gw_sg i2 (l_pairl hn hs (p_tried a1 a2 h) (fun v T1 ν1 e1 e2 hq => gw_sg (by rw [e2]; exact i1) (gw_sg (by rw [e2]; exact i2) (by rw [e1]; exact hq)))))
  · exact gw_sg i1 (gw_sg i2 (gw_sg i3 (l_pair hn hs (p_fall a1 a2 a3 h) (fun v T1 ν1 e1 e2 hq => gw_sg (by rw [e2]; exact i1) (gw_sg (by rw [e2]; exact i2) (gw_sg (by rw [e2]; exact i3) (by rw [e1]; exact hq)))))))
  · exact gw_sg i1 (l_pairl hn hs (p_judge a1 h) (fun v T1 ν1 e1 e2 hq => gw_sg (by rw [e2]; exact i1) (by rw [e1]; exact hq)))
  · exact gw_sg i1 (l_pairl hn hs (p_best hc a1 h) (fun v T1 ν1 e1 e2 hq => gw_sg (by rw [e2]; exact i1) (by rw [e1]; exact hq)))
  · exact gw_sg i1 (gw_sg i2 (gw_sg i3 (gw_sg i4 (gw_sg i5 (l_pairl hn hs (p_next hc a1 a2 a3 a4 a5 h) (fun v T1 ν1 e1 e2 hq => gw_sg (by rw [e2]; exact i1) (gw_sg (by rw [e2]; exact i2) (gw_sg (by rw [e2]; exact i3) (gw_sg (by rw [e2]; exact i4) (gw_sg (by rw [e2]; exact i5) (by rw [e1]; exact hq)))))))))))
  · exact gw_sg i1 (gw_sg i2 (l_pair hn hs (p_edge hc a1 a2 h) (fun v T1 ν1 e1 e2 hq => gw_sg (by rw [e2]; exact i1) (gw_sg (by rw [e2]; exact i2) (by rw [e1]; exact hq)))))
  · exact gw_sg i1 (gw_sg i2 (l_pair hn hs (p_weak hc a1 a2 h) (fun v T1 ν1 e1 e2 hq => gw_sg (by rw [e2]; exact i1) (gw_sg (by rw [e2]; exact i2) (by rw [e1]; exact hq)))))
  · exact gw_sg i1 (gw_sg i2 (l_pair hn hs (p_rounds a1 a2 h) (fun v T1 ν1 e1 e2 hq => gw_sg (by rw [e2]; exact i1) (gw_sg (by rw [e2]; exact i2) (by rw [e1]; exact hq)))))
  · exact gw_sg i1 (gw_sg i2 (l_pair hn hs (p_lies hc a1 a2 h) (fun v T1 ν1 e1 e2 hq => gw_sg (by rw [e2]; exact i1) (gw_sg (by rw [e2]; exact i2) (by rw [e1]; exact hq)))))
  · exact gw_sg i1 (gw_sg i2 (gw_sg i3 (gw_sg i4 (gw_ck a4 (gw_let (l_pair hn hs (p_note a1 a2 a3 (by split <;> simp) h) (fun v T1 ν1 e1 e2 hq => gw_sg (by rw [e2]; exact i1) (gw_sg (by rw [e2]; exact i2) (gw_sg (by rw [e2]; exact i3) (gw_sg (by rw [e2]; exact i4) (gw_ck (by rw [e1]; exact a4) (gw_let (by rw [e1]; exact hq)))))))))))))
  · exact gw_sg i1 (l_pair hn hs (p_strike a1 h) (fun v T1 ν1 e1 e2 hq => gw_sg (by rw [e2]; exact i1) (by rw [e1]; exact hq)))
  · exact gw_sg i1 (l_pair hn hs (p_fitting a1 h) (fun v T1 ν1 e1 e2 hq => gw_sg (by rw [e2]; exact i1) (by rw [e1]; exact hq)))
  · exact gw_sg i1 (l_pair hn hs (p_doubt a1 h) (fun v T1 ν1 e1 e2 hq => gw_sg (by rw [e2]; exact i1) (by rw [e1]; exact hq)))
  · exact gw_sg i1 (l_pair hn hs (p_least a1 h) (fun v T1 ν1 e1 e2 hq => gw_sg (by rw [e2]; exact i1) (by rw [e1]; exact hq)))
  · exact gw_sg i1 (l_pair hn hs (p_doubted a1 h) (fun v T1 ν1 e1 e2 hq => gw_sg (by rw [e2]; exact i1) (by rw [e1]; exact hq)))
  · exact gw_sg i1 (l_pair hn hs (p_parts a1 h) (fun v T1 ν1 e1 e2 hq => gw_sg (by rw [e2]; exact i1) (by rw [e1]; exact hq)))
  · exact gw_sg i1 (l_pair hn hs (p_begin a1 h) (fun v T1 ν1 e1 e2 hq => gw_sg (by rw [e2]; exact i1) (by rw [e1]; exact hq)))
  · exact gw_sg i1 (gw_sg i2 (l_pair hn hs (p_drop a1 a2 h) (fun v T1 ν1 e1 e2 hq => gw_sg (by rw [e2]; exact i1) (gw_sg (by rw [e2]; exact i2) (by rw [e1]; exact hq)))))
  · exact l_pair hn hs (p_back h) (fun v T1 ν1 e1 e2 hq => hq)
  · exact gw_sg i1 (l_pair hn hs (p_now a1 h) (fun v T1 ν1 e1 e2 hq => gw_sg (by rw [e2]; exact i1) (by rw [e1]; exact hq)))
  · exact gw_sg i1 (l_pair hn hs (p_count a1 h) (fun v T1 ν1 e1 e2 hq => gw_sg (by rw [e2]; exact i1) (by rw [e1]; exact hq)))
  · exact l_fin (r := 0) hn hs ⟨iAll_fr h (gfr.refl [] ν) (by decide) (by decide), rfl, rfl⟩
theorem law_flat (hL : L ≤ 3072) (hs : scr L T ν) (h : iAll 0 T ν) : gw (g_L_law_23 0) T ν one := by
  unfold g_L_law_23
  refine gw_fx (fun (x : Int) U τ => ∃ c : Nat, x = 6 * c ∧ x ≤ 3078 ∧ iAll c U τ ∧ scr L U τ) (fun x => (4000 - x).toNat) ⟨0, rfl, by decide, h, hs⟩ (by decide) ?_
  intro rec x U τ hI hrec
  obtain ⟨c, rfl, hx, h', hs'⟩ := hI
  by_cases c0 : 6 * (c : Int) ≤ (L : Int) - 6
  · exact law_step hL (fun U' τ' h1 h2 => hrec _ U' τ' ⟨c + 1, by omega, by omega, h1, h2⟩ (by omega)) hs' (by omega) h' (by omega)
  · unfold gB_L_law_23
    refine gw_sn ?_
    rw [hs'.1]
    exact gw_cb ⟨by omega, by omega⟩ (fun _ => gw_ret rfl) (fun g => absurd (by omega) g)
end
