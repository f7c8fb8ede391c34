/-! ALL THAT HOLDS BETWEEN TWO CALLS -/
def aBs : List Int := [40, 41, -3902, -3903, -3904, -3905, -3906, -3907, -3908, 42, 43, 44, -207, -6903, -6908, -6909, 71, 73, 74]
section
variable {T T' : gT} {ν ν' : gN}
theorem rO_104 (h : iBs T ν) {b : Int} (hb : rO ν b) : 104 < b ∧ b ≤ T.1 ∧ (T.2 b.toNat).1 = 20 := by
  obtain ⟨c, h1, h2, h3, h4⟩ := hb
  have := h.1.1 c h1 h2
  rw [h3] at this
  rcases this with g | g
  · exact absurd g h4
  · have g1 := g.1
    exact ⟨g.2.1, by have := g1.2.1; omega, g1.2.2⟩
theorem iBs_eq (hT : gext T T') (e : ∀ b ∈ aBs, ν' b = ν b) (e92 : ν' 92 0 = 0) (d : ∀ b, rO ν b → ν' b = ν b) (h : iBs T ν) : iBs T' ν' := by
  have hr : ∀ c : Int, 0 ≤ c → c < 125 → ν 40 c ≠ 0 → rO ν (ν 40 c) := fun c h1 h2 h3 => ⟨c, h1, h2, rfl, h3⟩
  obtain ⟨⟨b1, b2, b3, b4⟩, h2, h3, h4, h5, h6, h7, h8⟩ := h
  have eP : ∀ law : Int, pR ν' law = pR ν law := fun law => by
    unfold pR
    rw [e (-6903) (by decide), e (-6908) (by decide), e (-6909) (by decide), e 71 (by decide), e 73 (by decide), e 74 (by decide)]
  unfold iBs iBr
  rw [e 40 (by decide), e 41 (by decide), e (-3902) (by decide), e (-3903) (by decide), e (-3904) (by decide), e (-3906) (by decide), e 44 (by decide), e (-207) (by decide)]
  refine ⟨⟨fun c c1 c2 => ?_, b2, b3, b4⟩, h2, h3, h4, h5, h6, e92, fun g1 g2 => ?_⟩
  · rcases b1 c c1 c2 with g | g
    · exact Or.inl g
    · exact Or.inr (hT.arr g)
  · obtain ⟨g3, g4⟩ := h8 g1 g2
    rw [eP]
    refine ⟨?_, fun c c1 c2 c3 => ?_⟩
    · unfold eqC at g3 ⊢
      rw [e (-3906) (by decide), e (-3905) (by decide), e (-3907) (by decide), e (-3908) (by decide), e 42 (by decide), e 43 (by decide), e 44 (by decide)]
      exact g3
    · rw [e 41 (by decide), e (-3902) (by decide)] at c3
      obtain ⟨g5, g6⟩ := g4 c c1 c2 c3
      unfold rowV
      rw [e 40 (by decide), d _ (hr c c1 c2 (by have := g5.2.1; omega))]
      exact ⟨hT.arr g5, g6⟩
theorem iBs_ch (e : ∀ b ∈ ([40, 41, -3902, -3903, -3904, -3906, 44, 92] : List Int), ν' b = ν b) (h207 : ν' (-207) 0 = ν (-207) 0 + 1) (h : iBs T ν) : iBs T ν' := by
  obtain ⟨⟨b1, b2, b3, b4⟩, h2, h3, h4, h5, h6, h7, h8⟩ := h
  unfold iBs iBr
  rw [e 40 (by decide), e 41 (by decide), e (-3902) (by decide), e (-3903) (by decide), e (-3904) (by decide), e (-3906) (by decide), e 44 (by decide), e 92 (by decide), h207]
  exact ⟨⟨b1, b2, b3, b4⟩, h2, by omega, h4, h5, h6, h7, fun g1 g2 => by omega⟩
theorem iWk_eq (hT : gext T T') (e0 : ν' (-4600) = ν (-4600)) (e1 : ν' (-4601) = ν (-4601)) (e2 : ν' (-4602) = ν (-4602)) (h : iWk T ν) : iWk T' ν' := by
  unfold iWk
  rw [e0, e1, e2]
  rcases h with h | ⟨F, G, H, r1, r2, r3, aF, aG, aH, n⟩
  · exact Or.inl h
  · exact Or.inr ⟨F, G, H, r1, r2, r3, hT.arr aF, hT.arr aG, hT.arr aH, n⟩
theorem wkO_in (hL : gL T) (h : iWk T ν) {b : Int} (hb : wkO ν b) : b ≤ T.1 ∧ (104 < b → (T.2 b.toNat).1 = 20) := by
  have h104 := hL.1
  unfold wkO at hb
  rcases h with ⟨h1, h2, h3⟩ | ⟨F, G, H, r1, r2, r3, aF, aG, aH, n⟩
  · exact ⟨by omega, fun _ => by omega⟩
  · have f1 := aF.1
    have g1 := aG.1
    have k1 := aH.1
    have f2 := f1.2.1
    have g2 := g1.2.1
    have k2 := k1.2.1
    rw [r1, r2, r3] at hb
    refine ⟨by omega, fun _ => ?_⟩
    rcases hb with e | e | e
    · rw [e]; exact f1.2.2
    · rw [e]; exact g1.2.2
    · rw [e]; exact k1.2.2
theorem iLs_eq (hT : gext T T') (e0 : ν' (-5100) = ν (-5100)) (e1 : ν' (-5101) = ν (-5101)) (d : 104 < ν (-5100) 0 → ν' (ν (-5100) 0) = ν (ν (-5100) 0)) (h : iLs T ν) : iLs T' ν' ∧ lsp T' ν' = lsp T ν := by
  obtain ⟨h1, h2, h3, h4, h5, h6⟩ := h
  have eT : T'.2 (ν (-5100) 0).toNat = T.2 (ν (-5100) 0).toNat := hT.2 _ h1.2.1
  refine ⟨?_, by unfold lsp; rw [e0, eT]⟩
  unfold iLs
  rw [e0, e1, eT]
  have hle := hT.1
  refine ⟨⟨h1.1, Nat.le_trans h1.2.1 hle, by rw [eT]; exact h1.2.2⟩, h2, h3, h4, fun z hz => ?_, fun z hz hz2 => ?_⟩
  · rw [d (h3 (by omega))]; exact h5 z hz
  · rw [d (h3 (by omega))]; exact h6 z hz hz2
def aTp : List Int := [7, -102, 70, -6901]
theorem iTp_eq (e : ∀ b ∈ aTp, ν' b = ν b) (h : iTp ν) : iTp ν' := by
  unfold iTp
  rw [e 7 (by decide), e (-102) (by decide), e 70 (by decide), e (-6901) (by decide)]
  exact h
theorem iWd_eq (e : ν' 75 = ν 75) (h : iWd ν) : iWd ν' := by
  unfold iWd at h ⊢
  rw [e]; exact h
/-- the rows of the tables apart, the counters, the room -/
def iRm (c : Nat) (T : gT) (ν : gN) : Prop := gL T ∧ (∀ b, rO ν b → ¬ wkO ν b) ∧ (0 ≤ ν (-207) 0 ∧ ν (-207) 0 ≤ c) ∧ ν (-3902) 0 ≤ c ∧ T.1 ≤ 104 + 130 * c ∧ gsl T + wks3 ν + lsp T ν + bsP ν ≤ 868795 + 6 * c
def iAll (c : Nat) (T : gT) (ν : gN) : Prop := iSt ν ∧ iTp ν ∧ iWd ν ∧ iPl ν ∧ iNt ν ∧ iHd ν ∧ iBs T ν ∧ iWk T ν ∧ iLs T ν ∧ iRm c T ν
def aDy : List Int := [40, -4600, -4601, -4602, -5100, -207, -3902]
theorem iRm_eq {c c' : Nat} (hc : c ≤ c') (e : ∀ b ∈ aDy, ν' b = ν b) (h : iRm c T ν) : iRm c' T ν' := by
  obtain ⟨h1, h2, h3, h4, h5, h6⟩ := h
  unfold iRm rO wkO wks3 lsp bsP
  rw [e 40 (by decide), e (-4600) (by decide), e (-4601) (by decide), e (-4602) (by decide), e (-5100) (by decide), e (-207) (by decide), e (-3902) (by decide)]
  unfold wks3 lsp bsP at h6
  exact ⟨h1, h2, by omega, by omega, by omega, by omega⟩
/-- the tables, where no row of theirs is touched -/
theorem iTb_eq {c c' : Nat} (hc : c ≤ c') (e : ∀ b ∈ aBs ++ aDy ++ [-5101, 92], ν' b = ν b) (d : ∀ b, 104 < b → ν' b = ν b) (h : iBs T ν ∧ iWk T ν ∧ iLs T ν ∧ iRm c T ν) : iBs T ν' ∧ iWk T ν' ∧ iLs T ν' ∧ iRm c' T ν' := by
  obtain ⟨h1, h2, h3, h4⟩ := h
  exact ⟨iBs_eq (gext.refl _) (fun b hb => e b (List.mem_append_left _ (List.mem_append_left _ hb))) (by rw [e 92 (by decide)]; exact h1.2.2.2.2.2.2.1) (fun b hb => d b (rO_104 h1 hb).1) h1, iWk_eq (gext.refl _) (e _ (by decide)) (e _ (by decide)) (e _ (by decide)) h2, (iLs_eq (gext.refl _) (e _ (by decide)) (e _ (by decide)) (fun g => d _ g) h3).1, iRm_eq hc (fun b hb => e b (List.mem_append_left _ (List.mem_append_right _ hb))) h4⟩
theorem gfr_dy {W : List Int} (hf : gfr W ν ν') (hW : ∀ x ∈ W, x ≤ 104) : ∀ b : Int, 104 < b → ν' b = ν b := fun b hb => hf b (fun g => by have := hW b g; omega)
def aAll : List Int := aSt ++ aTp ++ [75] ++ aPl ++ aNt ++ aHd ++ (aBs ++ aDy ++ [-5101, 92])
theorem iAll_fr {c : Nat} {W : List Int} (h : iAll c T ν) (hf : gfr W ν ν') (hW : ∀ x ∈ W, x ≤ 104) (hd : ∀ b ∈ aAll, b ∉ W) : iAll (c + 1) T ν' := by
  obtain ⟨h1, h2, h3, h4, h5, h6, h7⟩ := h
  have e : ∀ b ∈ aAll, ν' b = ν b := hf.eq hd
  have ea : ∀ L : List Int, (∀ b ∈ L, b ∈ aAll) → ∀ b ∈ L, ν' b = ν b := fun L hL b hb => e b (hL b hb)
  exact ⟨iSt_eq (ea aSt (by decide)) h1, iTp_eq (ea aTp (by decide)) h2, iWd_eq (e 75 (by decide)) h3, iPl_eq (ea aPl (by decide)) h4, iNt_eq (ea aNt (by decide)) h5, iHd_eq (ea aHd (by decide)) h6, iTb_eq (Nat.le_succ _) (ea _ (by decide)) (gfr_dy hf hW) h7⟩
end
/-- both calls, the script kept -/
def gp (m1 m2 : gM Int) (T : gT) (ν : gN) (P : Int → gT → gN → Prop) : Prop := gw m1 T ν (fun r T1 ν1 => (ν1 0 = ν 0 ∧ T1.2 0 = T.2 0) ∧ gv m2 T1 ν1 (fun r2 ν2 => r2 = r ∧ P r T1 ν2))
theorem gb.p {m1 m2 : gM Int} {T : gT} {ν : gN} {P : Int → gN → Prop} {P' : Int → gT → gN → Prop} (h : gb m1 m2 T ν P) (hz : z0 m1) (hP : ∀ r ν2, P r ν2 → P' r T ν2) : gp m1 m2 T ν P' := by
  obtain ⟨r, ν1, h1, h2⟩ := h
  exact ⟨r, T, ν1, h1, hz T ν r T ν1 h1, h2.mono (fun r2 ν2 hh => ⟨hh.1, hP r ν2 hh.2⟩)⟩
/-- what a call of both leaves: the same answers, and all holds -/
def aft (c : Nat) (T : gT) (ν : gN) (r : Int) (T' : gT) (ν' : gN) : Prop := iAll (c + 1) T' ν' ∧ (ν' 0 = ν 0 ∧ T'.2 0 = T.2 0)
def inI (x : Int) : Prop := -2147483648 ≤ x ∧ x ≤ 2147483647
def lgR (x : Int) : Prop := -9223372036854775808 ≤ x ∧ x ≤ 9223372036854775807
section
variable {c : Nat} {T : gT} {ν : gN}
theorem p_fault {x : Int} (a : inI x) (h : iAll c T ν) : gp (g_X11_fault x) (g_X12_fault x) T ν (fun r T' ν' => inI r ∧ aft c T ν r T' ν') := by
  have hp := h.2.2.2.1.2.1
  refine (c_fault a hp.1 hp.2.1).p (z_g_X11_fault x) (fun r ν2 q => ⟨?_, iAll_fr h q.2 (by decide) (by decide), q.2 0 (by decide), rfl⟩)
  unfold inI; omega
theorem p_count {x : Int} (a : inI x) (h : iAll c T ν) : gp (g_X11_count x) (g_X12_count x) T ν (fun r T' ν' => inI r ∧ aft c T ν r T' ν') := by
  obtain ⟨p1, p2, p3, p7, p8, S, p9, p10, p11⟩ := h.2.2.2.1
  have hn := h.2.2.2.2.1
  have b2 := p10.1
  have b3 := p10.2.1
  have e1 := p9.1
  have e2 := p9.2.1
  have n1 := hn.1
  refine (c_count a h.1 (by omega) p7 p8 hn.2.1 (by rw [p7, e1]; exact b2) (by rw [p8, e2]; omega) (by rw [hn.2.1]; exact ⟨n1.1, n1.2.1⟩)).p (z_g_X11_count x) (fun r ν2 q => ⟨?_, iAll_fr h q.2 (by decide) (by decide), q.2 0 (by decide), rfl⟩)
  unfold inI; omega
theorem p_now {x : Int} (a : inI x) (h : iAll c T ν) : gp (g_X11_now x) (g_X12_now x) T ν (fun r T' ν' => inI r ∧ aft c T ν r T' ν') :=
  (c_now a h.1 h.2.2.2.2.2.1).p (z_g_X11_now x) (fun r ν2 q => ⟨by have := q.1; unfold inI; omega, iAll_fr h q.2 (by decide) (by decide), q.2 0 (by decide), rfl⟩)
theorem p_fitting {x : Int} (a : inI x) (h : iAll c T ν) : gp (g_X11_fitting x) (g_X12_fitting x) T ν (fun r T' ν' => inI r ∧ aft c T ν r T' ν') :=
  (c_fitting a h.1 h.2.2.2.2.1).p (z_g_X11_fitting x) (fun r ν2 q => ⟨by have := q.1; unfold inI; omega, iAll_fr h q.2 (by decide) (by decide), q.2 0 (by decide), rfl⟩)
theorem p_doubt {x : Int} (a : inI x) (h : iAll c T ν) : gp (g_X11_doubt x) (g_X12_doubt x) T ν (fun r T' ν' => inI r ∧ aft c T ν r T' ν') :=
  (c_doubt a h.1 h.2.2.2.2.1).p (z_g_X11_doubt x) (fun r ν2 q => ⟨by have := q.1; unfold inI; omega, iAll_fr h q.2 (by decide) (by decide), q.2 0 (by decide), rfl⟩)
theorem p_least {x : Int} (a : inI x) (h : iAll c T ν) : gp (g_X11_least x) (g_X12_least x) T ν (fun r T' ν' => inI r ∧ aft c T ν r T' ν') :=
  (c_least a h.1 h.2.2.2.2.1).p (z_g_X11_least x) (fun r ν2 q => ⟨by have := q.1; unfold inI; omega, iAll_fr h q.2 (by decide) (by decide), q.2 0 (by decide), rfl⟩)
theorem p_doubted {x : Int} (a : inI x) (h : iAll c T ν) : gp (g_X11_doubted x) (g_X12_doubted x) T ν (fun r T' ν' => inI r ∧ aft c T ν r T' ν') :=
  (c_doubted a h.1 h.2.2.2.2.1).p (z_g_X11_doubted x) (fun r ν2 q => ⟨by have := q.1; unfold inI; omega, iAll_fr h q.2 (by decide) (by decide), q.2 0 (by decide), rfl⟩)
theorem p_parts {x : Int} (a : inI x) (h : iAll c T ν) : gp (g_X11_parts x) (g_X12_parts x) T ν (fun r T' ν' => inI r ∧ aft c T ν r T' ν') :=
  (c_parts a h.1 h.2.2.2.2.1).p (z_g_X11_parts x) (fun r ν2 q => ⟨by have := q.1; unfold inI; omega, iAll_fr h q.2 (by decide) (by decide), q.2 0 (by decide), rfl⟩)
theorem p_tried {x y : Int} (a : inI x) (b : inI y) (h : iAll c T ν) : gp (g_X11_tried x y) (g_X12_tried x y) T ν (fun r T' ν' => lgR r ∧ aft c T ν r T' ν') :=
  (c_tried a b h.1 h.2.2.2.1).p (z_g_X11_tried x y) (fun r ν2 q => ⟨by have := q.1; unfold lgR; omega, iAll_fr h q.2 (by decide) (by decide), q.2 0 (by decide), rfl⟩)
theorem p_fall {x y z : Int} (a : inI x) (b : inI y) (d : inI z) (h : iAll c T ν) : gp (g_X11_fall x y z) (g_X12_fall x y z) T ν (fun r T' ν' => inI r ∧ aft c T ν r T' ν') :=
  (c_fall a b d h.1 h.2.2.2.1).p (z_g_X11_fall x y z) (fun r ν2 q => ⟨by have := q.1; unfold inI; omega, iAll_fr h q.2 (by decide) (by decide), q.2 0 (by decide), rfl⟩)
theorem p_judge {x : Int} (a : inI x) (h : iAll c T ν) : gp (g_X11_judge x) (g_X12_judge x) T ν (fun r T' ν' => lgR r ∧ aft c T ν r T' ν') :=
  (c_judge a h.1 h.2.2.2.1).p (z_g_X11_judge x) (fun r ν2 q => ⟨by have := q.1; unfold lgR; omega, iAll_fr h q.2 (by decide) (by decide), q.2 0 (by decide), rfl⟩)
/-- the same where one part is its own -/
theorem iAll_own {ν' : gN} {W : List Int} (h : iAll c T ν) (hf : gfr W ν ν') (hW : ∀ x ∈ W, x ≤ 104) (t2 : iTp ν') (t4 : iPl ν') (t5 : iNt ν') (t6 : iHd ν') (hd : ∀ b ∈ aSt ++ [75] ++ (aBs ++ aDy ++ [-5101, 92]), b ∉ W) : iAll (c + 1) T ν' := by
  obtain ⟨h1, h2, h3, h4, h5, h6, h7⟩ := h
  have e : ∀ b ∈ aSt ++ [75] ++ (aBs ++ aDy ++ [-5101, 92]), ν' b = ν b := hf.eq hd
  exact ⟨iSt_eq (fun b hb => e b (List.mem_append_left _ (List.mem_append_left _ hb))) h1, t2, iWd_eq (e 75 (by decide)) h3, t4, t5, t6, iTb_eq (Nat.le_succ _) (fun b hb => e b (List.mem_append_right _ hb)) (gfr_dy hf hW) h7⟩
theorem p_feed {x1 x2 x3 x4 x5 : Int} (h : iAll c T ν) : gp (g_X11_feed x1 x2 x3 x4 x5) (g_X12_feed x1 x2 x3 x4 x5) T ν (fun r T' ν' => inI r ∧ aft c T ν r T' ν') :=
  (c_feed h.2.1).p (z_g_X11_feed x1 x2 x3 x4 x5) (fun r ν2 q => ⟨by have := q.1; unfold inI; omega, iAll_own h q.2.1 (by decide) q.2.2 (iPl_eq (q.2.1.eq (by decide)) h.2.2.2.1) (iNt_eq (q.2.1.eq (by decide)) h.2.2.2.2.1) (iHd_eq (q.2.1.eq (by decide)) h.2.2.2.2.2.1) (by decide), q.2.1 0 (by decide), rfl⟩)
theorem p_plan {x : Int} (a : inI x) (h : iAll c T ν) : gp (g_X11_plan x) (g_X12_plan x) T ν (fun r T' ν' => inI r ∧ aft c T ν r T' ν') :=
  (c_plan a h.2.1 h.2.2.1 h.2.2.2.1).p (z_g_X11_plan x) (fun r ν2 q => ⟨by have := q.1; unfold inI; omega, iAll_own h q.2.1 (by decide) q.2.2.1 q.2.2.2 (iNt_eq (q.2.1.eq (by decide)) h.2.2.2.2.1) (iHd_eq (q.2.1.eq (by decide)) h.2.2.2.2.2.1) (by decide), q.2.1 0 (by decide), rfl⟩)
theorem p_note {x1 x2 x3 x4 : Int} (a1 : inI x1) (a2 : inI x2) (a3 : inI x3) (a4 : x4 = 0 ∨ x4 = 1) (h : iAll c T ν) : gp (g_X11_note x1 x2 x3 x4) (g_X12_note x1 x2 x3 x4) T ν (fun r T' ν' => inI r ∧ aft c T ν r T' ν') :=
  (c_note a1 a2 a3 a4 h.1 h.2.2.2.2.1).p (z_g_X11_note x1 x2 x3 x4) (fun r ν2 q => ⟨by have := q.1; unfold inI; omega, iAll_own h q.2.1 (by decide) (iTp_eq (q.2.1.eq (by decide)) h.2.1) (iPl_eq (q.2.1.eq (by decide)) h.2.2.2.1) q.2.2 (iHd_eq (q.2.1.eq (by decide)) h.2.2.2.2.2.1) (by decide), q.2.1 0 (by decide), rfl⟩)
theorem p_strike {x : Int} (a : inI x) (h : iAll c T ν) : gp (g_X11_strike x) (g_X12_strike x) T ν (fun r T' ν' => inI r ∧ aft c T ν r T' ν') :=
  (c_strike a h.2.2.2.2.1).p (z_g_X11_strike x) (fun r ν2 q => ⟨by have := q.1; unfold inI; omega, iAll_own h q.2.1 (by decide) (iTp_eq (q.2.1.eq (by decide)) h.2.1) (iPl_eq (q.2.1.eq (by decide)) h.2.2.2.1) q.2.2 (iHd_eq (q.2.1.eq (by decide)) h.2.2.2.2.2.1) (by decide), q.2.1 0 (by decide), rfl⟩)
theorem p_begin {x : Int} (a : inI x) (h : iAll c T ν) : gp (g_X11_begin x) (g_X12_begin x) T ν (fun r T' ν' => inI r ∧ aft c T ν r T' ν') :=
  (c_begin a h.1 h.2.2.2.2.2.1).p (z_g_X11_begin x) (fun r ν2 q => ⟨by have := q.1; unfold inI; omega, iAll_own h q.2.1 (by decide) (iTp_eq (q.2.1.eq (by decide)) h.2.1) (iPl_eq (q.2.1.eq (by decide)) h.2.2.2.1) (iNt_eq (q.2.1.eq (by decide)) h.2.2.2.2.1) q.2.2 (by decide), q.2.1 0 (by decide), rfl⟩)
theorem p_drop {x y : Int} (a : inI x) (b : inI y) (h : iAll c T ν) : gp (g_X11_drop x y) (g_X12_drop x y) T ν (fun r T' ν' => inI r ∧ aft c T ν r T' ν') :=
  (c_drop a b h.1 h.2.2.2.2.2.1).p (z_g_X11_drop x y) (fun r ν2 q => ⟨by have := q.1; unfold inI; omega, iAll_own h q.2.1 (by decide) (iTp_eq (q.2.1.eq (by decide)) h.2.1) (iPl_eq (q.2.1.eq (by decide)) h.2.2.2.1) (iNt_eq (q.2.1.eq (by decide)) h.2.2.2.2.1) q.2.2 (by decide), q.2.1 0 (by decide), rfl⟩)
theorem p_back (h : iAll c T ν) : gp g_X11_back g_X12_back T ν (fun r T' ν' => inI r ∧ aft c T ν r T' ν') :=
  (c_back h.1 h.2.2.2.2.2.1).p z_g_X11_back (fun r ν2 q => ⟨by have := q.1; unfold inI; omega, iAll_own h q.2.1 (by decide) (iTp_eq (q.2.1.eq (by decide)) h.2.1) (iPl_eq (q.2.1.eq (by decide)) h.2.2.2.1) (iNt_eq (q.2.1.eq (by decide)) h.2.2.2.2.1) q.2.2 (by decide), q.2.1 0 (by decide), rfl⟩)
end
