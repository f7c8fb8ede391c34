/-! EDGE: the call -/
section
variable {T : gT} {ν : gN}
theorem pcs_all {k : Int} (hs : iSt ν) (hk : isK k) : pcs (allP ν) k = ν 4 k := by
  have p0 := (hs.2.1 0 (by decide) (by decide)).2.1
  have p1 := (hs.2.1 1 (by decide) (by decide)).2.1
  have p2 := (hs.2.1 2 (by decide) (by decide)).2.1
  unfold pcs allP
  rcases hk with e | e | e <;> subst e <;> unfold un <;> simp <;> omega
theorem s_X0_edgeOf {p : bP} {k code : Int} (hok : okP p) (hk : isK k) (hcode : 0 ≤ code ∧ code < 125) (hpk : 0 < pcs code k) (hp : eqC ν p) (hi : iBr T ν) (hv : bsV T ν p) (h06 : 0 ≤ ν (-3906) 0 ∧ ν (-3906) 0 ≤ 1) (h16 : ν (-3916) 0 = (bf p 0 (bTop p) code).2.1) (h17 : ν (-3917) 0 = (bf p 0 (bTop p) code).2.2) (hfin : bv p 0 (bTop p) code < 1000000000000) (h15 : ν (-3915) 0 = bcl (bv p 0 (bTop p) code)) (h41 : ∀ c : Int, 0 ≤ c → c ≤ code → wit c code → ν 41 c = ν (-3902) 0) :
    gv (g_X0_edgeOf k code) T ν (fun r ν' => edR p k (bTop p) code r ∧ (∀ b : Int, b ∉ [43, 45, -3903, -3913, -3914, -3915, -3916, -3917] → ¬ rO ν b → ν' b = ν b) ∧ ν' (-3903) 0 = -1) := by
  have hwas := (hok.2.2.2.1 k hk).2
  have hrow : ∀ c : Int, 0 ≤ c → c ≤ code → wit c code → rowV T ν p c := fun c c1 c2 w => hv c c1 (by omega) (h41 c c1 c2 w)
  unfold g_X0_edgeOf
  refine gv_get (gv_put (gv_get (gv_put (gv_call (s_J7_fill_o45 (-1)) (fun _ τ h1 => gv_al (by rcases hk with e | e | e <;> omega) (gv_get (gv_as ?_ ?_)))))))
  · rw [h1.1 43 (by decide), gup_ne (by decide), gup_ne (by decide), (hp.2.2.2.2.1 k hk).2]; omega
  obtain ⟨hf, hz⟩ := h1
  have n : ∀ b : Int, b ∉ ([-3913, -3914, 45] : List Int) → τ b = ν b := fun b hb => by
    simp only [List.mem_cons, List.not_mem_nil, or_false, not_or] at hb
    rw [hf b (by simp only [List.mem_cons, List.not_mem_nil, or_false]; exact hb.2.2), gup_ne hb.2.1, gup_ne hb.1]
  rw [n 43 (by decide), n (-3915) (by decide), (hp.2.2.2.2.1 k hk).2, h15]
  have hbcl : bcl (bv p 0 (bTop p) code) = bv p 0 (bTop p) code := if_pos hfin
  rw [hbcl]
  generalize ht0 : gup τ 45 (bPr p k) (bv p 0 (bTop p) code) = τ0
  have n0 : ∀ b : Int, b ∉ ([-3913, -3914, 45] : List Int) → τ0 b = ν b := fun b hb => by
    rw [← ht0, gup_ne (fun e => hb (by rw [e]; decide))]; exact n b hb
  have e13 : τ0 (-3913) 0 = (bf p 0 (bTop p) code).2.1 := by
    rw [← ht0, gup_ne (by decide), hf _ (by decide), gup_ne (by decide), gup_at, h16]
  have e14 : τ0 (-3914) 0 = (bf p 0 (bTop p) code).2.2 := by
    rw [← ht0, gup_ne (by decide), hf _ (by decide), gup_at, gup_ne (by decide), h17]
  have hq0 : eqC τ0 p := eqC_fr (fun b hb => n0 b (fun h => by
    have := aBp_no b hb
    revert hb h; unfold aBp; simp only [List.mem_cons, List.not_mem_nil, or_false]; omega)) hp
  have hrow0 : ∀ c : Int, 0 ≤ c → c ≤ code → wit c code → rowV T τ0 p c := fun c c1 c2 w => by
    have hr := hrow c c1 c2 w
    unfold rowV at hr ⊢
    rw [n0 40 (by decide)]
    have h4 := hr.1.2.1
    rw [n0 (ν 40 c) (by simp only [List.mem_cons, List.not_mem_nil, or_false]; omega)]
    exact hr
  have hH : eH T τ0 p k code := by
    refine ⟨hok, hk, hcode, hpk, ⟨fun c c1 c2 w => (hrow0 c c1 c2 w).1, fun c c' c1 c2 c3 c4 w w' hne => ?_⟩, by rw [n0 _ (by decide)]; exact h06, e13, e14, hfin, hq0.2.1⟩
    rw [n0 40 (by decide)]
    have h4 := (hrow c c1 c2 w).1.2.1
    exact hi.2.1 c c' c1 (by omega) c3 (by omega) hne (by omega)
  have h45 : ∀ q : Int, 0 ≤ q → q ≤ 99 → τ0 45 q = if q = bPr p k then bv p 0 (bTop p) code else -1 := fun q q1 q2 => by
    rw [← ht0, gup_same]
    by_cases e : q = bPr p k
    · rw [if_pos e, if_pos e]
    · rw [if_neg e, if_neg e]; exact hz q q1 (by omega)
  have hv90 := bv_90 hok (low := 0) (high := bTop p) (c := code) (by omega) (by have := hok.1; omega) (by have := hok.1; omega)
  have hE : eI T τ0 τ0 p k code := by
    refine ⟨fun b _ _ => rfl, ⟨bPr p k, hwas, by rw [pw_self]; exact hq0⟩, fun _ _ => rfl, fun c c1 c2 w _ => hrow0 c c1 c2 w, fun q q1 q2 => ?_⟩
    rw [h45 q q1 q2]
    by_cases e : q = bPr p k
    · right
      rw [if_pos e, e, pw_self, if_pos rfl]
    · left; rw [if_neg e]
  refine (s_X0_edgeOf_51 (kept0 := bPr p k) hH (by rw [n0 (-3906) (by decide)]; exact hp.1) ⟨hE, by omega, by decide, fun _ => by decide, ?_, fun q q1 q2 => ?_, by decide, Or.inl ⟨rfl, ?_⟩⟩).mono ?_
  · rw [h45 _ hwas.1 hwas.2, if_pos rfl]; omega
  · rw [show q = bPr p k by omega, pw_self]
  · have := lgI_in (min 1 (99 - bPr p k)); omega
  · intro r ν' h
    obtain ⟨r1, _, ν1, hE1, e⟩ := h
    subst e
    refine ⟨r1, fun b hb hr => ?_, gup_at _ _ _ _⟩
    rw [gup_ne (fun e => hb (by rw [e]; decide)), hE1.1 b (fun h => hb (by revert h; simp only [List.mem_cons, List.not_mem_nil, or_false]; omega)) (fun ⟨c, c1, c2, w, e⟩ => hr ?_)]
    · exact n0 b (fun h => hb (by revert h; simp only [List.mem_cons, List.not_mem_nil, or_false]; omega))
    · rw [n0 40 (by decide)] at e
      have h4 := (hrow c c1 c2 w).1.2.1
      exact ⟨c, c1, by omega, e, by omega⟩
theorem s_X11_edge {k law : Int} (a1 : -2147483648 ≤ k ∧ k ≤ 2147483647) (a2 : -2147483648 ≤ law ∧ law ≤ 2147483647) (hH : bsH T ν) : gw (g_X11_edge k law) T ν (fun r T' ν' => (if (0 ≤ k ∧ k < 3) ∧ (0 ≤ law ∧ law ≤ 3) then edA ν k law r else r = -1) ∧ bsQ T ν T' ν') := by
  have hs := hH.1
  have htop := hs.1
  unfold g_X11_edge
  refine gw_rd (d_X8_hasKind a1) ?_
  by_cases c1 : 0 ≤ k ∧ k < 3
  rotate_left
  · rw [show (if 0 ≤ k ∧ k < 3 then (1 : Int) else 0) = 0 from if_neg c1]
    exact gw_cz (by decide) (fun _ => gw_ret ⟨by rw [if_neg (fun h => c1 h.1)], bsQ_refl hH⟩) (fun h => absurd rfl h)
  rw [show (if 0 ≤ k ∧ k < 3 then (1 : Int) else 0) = 1 from if_pos c1]
  refine gw_cz (by decide) (fun h => absurd h (by decide)) (fun _ => gw_rd (d_X11_isWithin a2 (by decide)) ?_)
  by_cases c2 : 0 ≤ law ∧ law ≤ 3
  rotate_left
  · rw [show (if 0 ≤ law ∧ law ≤ 3 then (1 : Int) else 0) = 0 from if_neg c2]
    exact gw_cz (by decide) (fun h => absurd rfl h) (fun _ => gw_ret ⟨by rw [if_neg (fun h => c2 h.2)], bsQ_refl hH⟩)
  rw [show (if 0 ≤ law ∧ law ≤ 3 then (1 : Int) else 0) = 1 from if_pos c2]
  refine gw_cz (by decide) (fun _ => ?_) (fun h => absurd (by decide) h)
  have hk : isK k := by unfold isK; omega
  obtain ⟨_, hb, h104, hcc, hcs, hch, hag⟩ := id hH
  have hok := pR_ok hs.rOK law
  have hT : bTop (pR ν law) = ν (-200) 0 := hs.2.2.2.2.2.1
  refine gw_callv (s_X0_prepare hs hb c2 hch hag) (fun _ ν1 h1 => gw_get ?_)
  obtain ⟨p1, p2, p3, p4, p5, p6, p7, p8, p9⟩ := h1
  have e40 : ν1 40 = ν 40 := p1 40 (by decide)
  rw [p1 (-200) (by decide)]
  have hd := d_X8_allPieces (T := T) (ν := ν1)
  rw [p1 4 (by decide)] at hd
  refine gw_rd hd ?_
  refine gw_call (s_X0_valueOf (low := 0) (high := ν (-200) 0) (code := allP ν) p2 hok p7 h104 p4 p3 (allP_in hs) hcc (by unfold bsP at hcs ⊢; rw [e40]; exact hcs) (by rw [hT]; omega)) (fun r T2 ν2 h2 => ?_)
  obtain ⟨q1, q2, q3, q4, q5, q6⟩ := h2
  have hQ := (bs_after c2 hs hb h104 p1 p2 p4 p5 p6 p7 p8 p9 q5 q6).1
  obtain ⟨q41, q42⟩ := q4 (by omega)
  have n : ∀ b : Int, b ≤ 104 → b ∉ ([-3915, -3916, -3917, 40, 41] : List Int) → ν2 b = ν1 b := fun b hb hn => q5.2.2.2.2.1 b (by omega) hn (rO_far p4 hb)
  have hv90 := bv_90 hok (low := 0) (high := ν (-200) 0) (c := allP ν) (by omega) (by omega) (by omega)
  have hbk := bf_kind hok (c := allP ν) (show (0 : Int) ≤ 0 by omega) (show ν (-200) 0 ≤ 40 by omega) (by omega)
  have hall := allP_in hs
  rw [q1]
  unfold vA
  by_cases c3 : bv (pR ν law) 0 (ν (-200) 0) (allP ν) < 1000000000000
  rotate_left
  · rw [if_neg c3]
    exact gv.w (gv_cl (by decide) (fun _ => gv_ret ⟨by rw [if_pos ⟨c1, c2⟩]; unfold edA; rw [if_neg c3], hQ⟩) (fun h => absurd (by decide) h))
  rw [if_pos c3]
  obtain ⟨k0, e0, hF0, hbf0⟩ := bf_first (p := pR ν law) (low := 0) (high := ν (-200) 0) (c := allP ν) (by omega) c3
  have hk0 : 0 ≤ k0 := by rcases hF0.1 with e | e | e <;> omega
  have e21 : (bf (pR ν law) 0 (ν (-200) 0) (allP ν)).2.1 = k0 := by rw [hbf0]
  have eA : ∀ r, (law < 2 → r = 100) → (¬ law < 2 → edR (pR ν law) k (ν (-200) 0) (allP ν) r) → (if (0 ≤ k ∧ k < 3) ∧ (0 ≤ law ∧ law ≤ 3) then edA ν k law r else r = -1) := fun r h1 h2 => by
    rw [if_pos ⟨c1, c2⟩]; unfold edA; rw [if_pos c3]
    by_cases c : law < 2
    · rw [if_pos c]; exact h1 c
    · rw [if_neg c]; exact h2 c
  refine gv.w (gv_cl ⟨⟨by omega, by omega⟩, ⟨by omega, by omega⟩⟩ (fun h => absurd h (by omega)) (fun _ => gv_get ?_))
  rw [q2, e21]
  have hk03 : k0 ≤ 2 := by rcases hF0.1 with e | e | e <;> omega
  have e4 : ν2 4 = ν 4 := by rw [n 4 (by decide) (by decide)]; exact p1 4 (by decide)
  have h4k := (hs.2.1 k c1.1 c1.2).2.1
  have hpk := pcs_all hs hk
  refine gv_cb ⟨⟨by omega, by omega⟩, ⟨by omega, by omega⟩⟩ (fun _ => gv_cb ⟨⟨by omega, by omega⟩, ⟨by omega, by omega⟩⟩ (fun c4 => gv_ret ⟨eA _ (fun _ => rfl) (fun h => absurd c4 h), hQ⟩) (fun c4 => gv_al c1 ?_)) (fun h => absurd (by omega) h)
  rw [e4]
  refine gv_cz ⟨by omega, by omega⟩ (fun c5 => ?_) (fun c5 => gv_ret ⟨eA _ (fun h => absurd h c4) (fun _ => Or.inr ⟨rfl, fun q _ _ => ?_⟩), hQ⟩)
  rotate_left
  · rw [bf_none hk q hall.1 (by omega)]
  have hd2 := d_X8_allPieces (T := T2) (ν := ν2)
  rw [e4] at hd2
  refine gv_rd hd2 ?_
  refine gv_call (s_X0_edgeOf (p := pR ν law) (k := k) (code := allP ν) hok hk hall (by omega) (eqC_fr (fun b hb => n b (aBp_le b hb) (aBp_no b hb)) p2) q5.2.1 q5.2.2.1 (by rw [n _ (by decide) (by decide)]; exact p7) (by rw [hT]; exact q2) (by rw [hT]; exact q3) (by rw [hT]; exact c3) (by rw [hT]; exact q41) q42) (fun r3 ν3 h3 => gv_ret ?_)
  obtain ⟨w1, w2, w3⟩ := h3
  rw [hT] at w1
  refine ⟨eA _ (fun h => absurd h c4) (fun _ => w1), ?_⟩
  obtain ⟨g1, g2, g3, g4, g5, g6, g7⟩ := hQ
  have m : ∀ b : Int, b ≤ 104 → b ∉ ([43, 45, -3903, -3913, -3914, -3915, -3916, -3917] : List Int) → ν3 b = ν2 b := fun b hb hn => w2 b hn (rO_far q5.2.1 hb)
  have m40 := m 40 (by decide) (by decide)
  have eO : ∀ b : Int, rO ν3 b ↔ rO ν2 b := fun b => by unfold rO; rw [m40]
  refine ⟨g1, g2, ⟨?_, by omega, ?_, ?_, ?_, ?_, ?_, fun h => by omega⟩, ?_, fun b b1 b2 b3 => ?_, fun b hb => g6 b ((eO b).mp hb), ?_⟩
  · have := g3.1
    unfold iBr at this ⊢
    rw [m40, m 41 (by decide) (by decide), m (-3902) (by decide) (by decide)]
    exact this
  · rw [m (-3904) (by decide) (by decide), m (-207) (by decide) (by decide)]; exact g3.2.2.1
  · rw [m (-3902) (by decide) (by decide)]; exact g3.2.2.2.1
  · rw [m (-3906) (by decide) (by decide)]; exact g3.2.2.2.2.1
  · rw [m 44 (by decide) (by decide)]; exact g3.2.2.2.2.2.1
  · rw [m 92 (by decide) (by decide)]; exact g3.2.2.2.2.2.2.1
  · unfold bsP at g4 ⊢; rw [m40]; exact g4
  · rw [w2 b (fun h => b2 (by revert h; unfold wBs; simp only [List.mem_cons, List.not_mem_nil, or_false]; omega)) (fun h => ?_)]
    · exact g5 b b1 b2 b3
    · rcases g6 b h with g | g
      · exact b3 g
      · omega
  · rw [m (-3902) (by decide) (by decide)]; exact g7
end
