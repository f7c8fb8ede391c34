/-! EDGE: the reference -/
section
variable {T : gT} {ν : gN}
theorem pR_pw {τ : gN} {law k q : Int} (hlaw : 2 ≤ law) (h : ∀ b ∈ ([-6903, -6908, -6909, 71, 74] : List Int), τ b = ν b) (h73 : ∀ j : Int, τ 73 j = if j = k then q else ν 73 j) : pR τ law = pw (pR ν law) k q := by
  have e73 : τ 73 = fun j => if j = k then q else ν 73 j := funext h73
  have eN : ∀ σ : gN, pR σ law = (decide (law = 1 ∨ law = 3), σ (-6903) 0, σ (-6908) 0, σ (-6909) 0, σ 71, σ 73, fun t => gsum (σ 74) t.toNat) := fun σ => by
    unfold pR
    rw [if_neg (show ¬ law < 2 by omega), if_neg (show ¬ law < 2 by omega), if_neg (show ¬ law < 2 by omega)]
  rw [eN τ, eN ν]
  unfold pw
  rw [h (-6903) (by decide), h (-6908) (by decide), h (-6909) (by decide), h 71 (by decide), h 74 (by decide), e73]
  rfl
def wEr : List Int := [-6902, -6952, -6953, 91, 92, 73]
/-- what edge answers -/
def edA (ν : gN) (k law r : Int) : Prop := if bv (pR ν law) 0 (ν (-200) 0) (allP ν) < 1000000000000 then (if law < 2 then r = 100 else edR (pR ν law) k (ν (-200) 0) (allP ν) r) else r = -2
theorem s_X12_edge {k law : Int} (a1 : -2147483648 ≤ k ∧ k ≤ 2147483647) (a2 : -2147483648 ≤ law ∧ law ≤ 2147483647) (hs : iSt ν) (h92 : ν 92 0 = 0) : gv (g_X12_edge k law) T ν (fun r ν' => (if (0 ≤ k ∧ k < 3) ∧ (0 ≤ law ∧ law ≤ 3) then edA ν k law r else r = -1) ∧ gfr wBr ν ν' ∧ ν' 92 0 = 0) := by
  have htop := hs.1
  have hf0 : gfr [-6902] ν (gup ν (-6902) 0 0) := (gfr.refl _ _).up (by decide)
  have h920 : gup ν (-6902) 0 0 92 0 = 0 := by rw [gup_ne (by decide)]; exact h92
  unfold g_X12_edge
  refine gv_put (gv_tz (k1 := gret 0) (k2 := gret 0) (d_X12_isKind a1) (fun c1 => gv_e1 ?_) (fun c => gv_e0 (gv_ret ⟨by rw [if_neg (fun h => c h.1)], hf0.mono (by decide), h920⟩)))
  refine gv_tz (k1 := gret 0) (k2 := gret 0) (d_X12_isIn a2 (by decide) (by decide)) (fun c2 => gv_c1 (gv_get ?_)) (fun c => gv_c0 (gv_ret ⟨by rw [if_neg (fun h => c h.2)], hf0.mono (by decide), h920⟩))

  rw [hf0 (-6903) (by decide), hs.2.2.2.2.2.1]
  have hd := d_X12_allPieces (T := T) (ν := gup ν (-6902) 0 0)
  rw [hf0 72 (by decide), allP_ref hs] at hd
  refine gv_rd hd ?_
  have eref : ∀ b ∈ ([-6903, -6908, -6909, 71, 73, 74] : List Int), gup ν (-6902) 0 0 b = ν b := hf0.eq (by decide)
  have hlay := s_X12_layBest (T := T) (ν := gup ν (-6902) 0 0) (law := law) (low := 0) (high := ν (-200) 0) (left := allP ν) (rOK_fr eref hs.rOK) c2 (by omega) (by rw [hf0 (-6903) (by decide), hs.2.2.2.2.2.1]; omega) (allP_in hs) h920
  rw [pR_fr eref] at hlay
  have hok := pR_ok hs.rOK law
  have hb := bv_90 hok (low := 0) (high := ν (-200) 0) (c := allP ν) (by omega) (by omega) (by omega)
  have hbk := bf_kind hok (c := allP ν) (show (0 : Int) ≤ 0 by omega) (show ν (-200) 0 ≤ 40 by omega) (by omega)
  refine gv_call hlay (fun r ν2 h2 => ?_)
  obtain ⟨q1, q2, q3, q4, q5⟩ := h2
  have hfr : gfr wBr ν ν2 := (hf0.mono (W' := wBr) (by decide)).trans (q4.mono (by decide))
  rw [q1]
  refine gv_cl ⟨⟨by omega, by omega⟩, ⟨by omega, by omega⟩⟩ (fun c3 => gv_al c1 (gv_get (gv_get (gv_let ?_)))) (fun c3 => gv_ret ⟨by rw [if_pos ⟨c1, c2⟩]; unfold edA; rw [if_neg c3], hfr, q5⟩)
  rw [hfr 73 (by decide), q2, q3]
  have hw73 : 0 ≤ ν 73 k ∧ ν 73 k ≤ 99 := by
    rw [(hs.2.2.2.2.2.2.1 k c1.1 c1.2).2.2]; exact (hs.2.1 k c1.1 c1.2).2.2
  unfold g_X12_edge_75
  refine gv_fx (fun (q : Int × Int) τ => (ν 73 k < q.2 ∧ q.2 ≤ 101) ∧ gfr wEr ν τ ∧ τ 92 0 = 0 ∧ (∀ j : Int, j ≠ k → τ 73 j = ν 73 j) ∧ ((q.1 = 100 ∧ q.2 ≤ 100 ∧ (q.2 = ν 73 k + 1 ∨ 2 ≤ law) ∧ ∀ x : Int, ν 73 k < x → x < q.2 → (bf (pw (pR ν law) k x) 0 (ν (-200) 0) (allP ν)).2 = (bf (pR ν law) 0 (ν (-200) 0) (allP ν)).2) ∨ (2 ≤ law ∧ edR (pR ν law) k (ν (-200) 0) (allP ν) q.1 ∧ 0 ≤ q.1 ∧ q.1 ≤ 99))) (fun q _ => (200 - q.2).toNat) ⟨by show ν 73 k < ν 73 k + 1 ∧ ν 73 k + 1 ≤ 101; omega, hfr.mono (by decide), q5, fun j _ => by rw [hfr 73 (by decide)], Or.inl ⟨rfl, by show ν 73 k + 1 ≤ 100; omega, Or.inl rfl, fun x x1 x2 => by omega⟩⟩ (by show (200 - (ν 73 k + 1)).toNat < 100000; omega) ?_
  intro rec q τ hI hrec
  obtain ⟨hq, hf, h9, h73, hst⟩ := hI
  have hfin : ∀ x : Int, (2 ≤ law → edR (pR ν law) k (ν (-200) 0) (allP ν) x) → (law < 2 → x = 100) → gv (g_X12_edge_146 k (ν 73 k) x) T τ (fun r ν' => (if (0 ≤ k ∧ k < 3) ∧ (0 ≤ law ∧ law ≤ 3) then edA ν k law r else r = -1) ∧ gfr wBr ν ν' ∧ ν' 92 0 = 0) := fun x hx1 hx2 => by
    unfold g_X12_edge_146
    refine gv_as c1 (gv_ret ⟨?_, fun b hb => ?_, by rw [gup_ne (by decide)]; exact h9⟩)
    · rw [if_pos ⟨c1, c2⟩]
      unfold edA
      rw [if_pos c3]
      by_cases cl : law < 2
      · rw [if_pos cl]; exact hx2 cl
      · rw [if_neg cl]; exact hx1 (by omega)
    · by_cases e : b = 73
      · subst e
        funext j
        rw [gup_same]
        by_cases ej : j = k
        · rw [if_pos ej, ej]
        · rw [if_neg ej]; exact h73 j ej
      · rw [gup_ne e]
        refine hf b (fun hh => hb ?_)
        revert hh
        unfold wEr wBr
        simp only [List.mem_cons, List.not_mem_nil, or_false]
        omega
  have hpr : 2 ≤ law → bPr (pR ν law) k = ν 73 k := fun hl => by
    show (if law < 2 then (fun _ => (0 : Int)) else ν 73) k = _
    rw [if_neg (by omega)]
  unfold gB_X12_edge_75
  refine gv_cb ⟨⟨by omega, by omega⟩, ⟨by omega, by omega⟩⟩ (fun c4 => hfin _ (fun hl => ?_) (fun hl => ?_)) (fun c4 => gv_cb ⟨by rcases hst with g | g <;> omega, by decide⟩ (fun c5 => hfin _ (fun hl => ?_) (fun hl => ?_)) (fun c5 => gv_cb ⟨a2, by decide⟩ (fun c6 => hfin _ (fun hl => by omega) (fun hl => by omega)) (fun c6 => gv_as c1 (gv_get ?_))))
  · rcases hst with g | g
    · right
      refine ⟨g.1, fun x x1 x2 => g.2.2.2 x (by rw [hpr hl] at x1; exact x1) (by omega)⟩
    · exact g.2.1
  · rcases hst with g | g
    · exact g.1
    · omega
  · rcases hst with g | g
    · exact absurd g.1 c5
    · exact g.2.1
  · rcases hst with g | g
    · exact absurd g.1 c5
    · omega
  · have hl2 : 2 ≤ law := by omega
    have hg : q.1 = 100 ∧ q.2 ≤ 100 ∧ (q.2 = ν 73 k + 1 ∨ 2 ≤ law) ∧ ∀ x : Int, ν 73 k < x → x < q.2 → (bf (pw (pR ν law) k x) 0 (ν (-200) 0) (allP ν)).2 = (bf (pR ν law) 0 (ν (-200) 0) (allP ν)).2 := by
      rcases hst with g | g
      · exact g
      · exfalso; omega
    have hq1 : q.1 = 100 := hg.1
    have h73' : ∀ j : Int, gup τ 73 k q.2 73 j = if j = k then q.2 else ν 73 j := fun j => by
      rw [gup_same]
      by_cases ej : j = k
      · rw [if_pos ej, if_pos ej]
      · rw [if_neg ej, if_neg ej]; exact h73 j ej
    have hfu : gfr wEr ν (gup τ 73 k q.2) := hf.up (by decide)
    have e5 : ∀ b ∈ ([-6903, -6908, -6909, 71, 74] : List Int), gup τ 73 k q.2 b = ν b := hfu.eq (by decide)
    have epw := pR_pw (ν := ν) (τ := gup τ 73 k q.2) (law := law) (k := k) (q := q.2) hl2 e5 h73'
    have hR : rOK (gup τ 73 k q.2) := by
      have hr := hs.rOK
      unfold rOK at hr ⊢
      rw [e5 (-6903) (by decide), e5 (-6908) (by decide), e5 (-6909) (by decide), e5 71 (by decide), e5 74 (by decide)]
      refine ⟨hr.1, hr.2.1, hr.2.2.1, fun j j1 j2 => ⟨(hr.2.2.2.1 j j1 j2).1, ?_⟩, hr.2.2.2.2⟩
      rw [h73']
      have := (hr.2.2.2.1 j j1 j2).2
      split <;> omega
    rw [hfu (-6903) (by decide), hs.2.2.2.2.2.1]
    have hd2 := d_X12_allPieces (T := T) (ν := gup τ 73 k q.2)
    rw [hfu 72 (by decide), allP_ref hs] at hd2
    refine gv_rd hd2 ?_
    have hlay2 := s_X12_layBest (T := T) (ν := gup τ 73 k q.2) (law := law) (low := 0) (high := ν (-200) 0) (left := allP ν) hR c2 (by omega) (by rw [hfu (-6903) (by decide), hs.2.2.2.2.2.1]; omega) (allP_in hs) (by rw [gup_ne (by decide)]; exact h9)
    rw [epw] at hlay2
    have hbk2 := bf_kind (pw_ok hok (k := k) (q := q.2) (by omega)) (c := allP ν) (show (0 : Int) ≤ 0 by omega) (show ν (-200) 0 ≤ 40 by omega) (by omega)
    refine gv_call hlay2 (fun r3 ν3 h3 => gv_get ?_)
    obtain ⟨u1, u2, u3, u4, u5⟩ := h3
    have hf3 : gfr wEr ν ν3 := hfu.trans (u4.mono (by decide))
    have k73 : ∀ j : Int, j ≠ k → ν3 73 j = ν 73 j := fun j hj => by rw [u4 73 (by decide), h73', if_neg hj]
    have hz : (200 - (q.2 + 1)).toNat < (200 - q.2).toNat := by omega
    have hmoved : (bf (pw (pR ν law) k q.2) 0 (ν (-200) 0) (allP ν)).2 ≠ (bf (pR ν law) 0 (ν (-200) 0) (allP ν)).2 → edR (pR ν law) k (ν (-200) 0) (allP ν) q.2 := fun hn => Or.inl ⟨by rw [hpr hl2]; exact hq.1, by omega, hn, fun x x1 x2 => hg.2.2.2 x (by rw [hpr hl2] at x1; exact x1) x2⟩
    rw [u2]
    unfold g_X12_edge_136 g_X12_edge_140
    refine gv_cb ⟨⟨by omega, by omega⟩, ⟨by omega, by omega⟩⟩ (fun c7 => gv_let (hrec _ _ ⟨by show ν 73 k < q.2 + 1 ∧ q.2 + 1 ≤ 101; omega, hf3, u5, k73, Or.inr ⟨hl2, hmoved (fun e => c7 (by rw [e])), by show 0 ≤ q.2 ∧ q.2 ≤ 99; omega⟩⟩ hz)) (fun c7 => gv_get ?_)
    rw [u3]
    refine gv_cb ⟨⟨by omega, by omega⟩, ⟨by omega, by omega⟩⟩ (fun c8 => gv_let (hrec _ _ ⟨by show ν 73 k < q.2 + 1 ∧ q.2 + 1 ≤ 101; omega, hf3, u5, k73, Or.inl ⟨hq1, by show q.2 + 1 ≤ 100; omega, Or.inr hl2, fun x x1 x2 => ?_⟩⟩ hz)) (fun c8 => gv_let (hrec _ _ ⟨by show ν 73 k < q.2 + 1 ∧ q.2 + 1 ≤ 101; omega, hf3, u5, k73, Or.inr ⟨hl2, hmoved (fun e => c8 (by rw [e])), by show 0 ≤ q.2 ∧ q.2 ≤ 99; omega⟩⟩ hz))
    by_cases ex : x = q.2
    · rw [ex]
      exact Prod.ext (by omega) c8
    · have x2' : x < q.2 + 1 := x2
      exact hg.2.2.2 x x1 (by omega)
end
