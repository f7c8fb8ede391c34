/-! THE TRIAL BY HAND -/
/-- a call of both: the same answer, and what holds then -/
def gb (m1 m2 : gM Int) (T : gT) (ν : gN) (Q : Int → gN → Prop) : Prop := gv m1 T ν (fun r ν1 => gv m2 T ν1 (fun r2 ν2 => r2 = r ∧ Q r ν2))
/-- the stair: the same on both sides, within its bounds -/
def iSt (ν : gN) : Prop := (1 ≤ ν (-200) 0 ∧ ν (-200) 0 ≤ 40) ∧ (∀ k : Int, 0 ≤ k → k < 3 → (-9 ≤ ν 3 k ∧ ν 3 k ≤ 9) ∧ (0 ≤ ν 4 k ∧ ν 4 k ≤ 4) ∧ (0 ≤ ν 5 k ∧ ν 5 k ≤ 99)) ∧ (∀ t : Int, 0 ≤ t → t < 41 → 0 ≤ ν 6 t ∧ ν 6 t ≤ 99) ∧ (0 ≤ ν (-204) 0 ∧ ν (-204) 0 ≤ 99) ∧ (0 ≤ ν (-205) 0 ∧ ν (-205) 0 ≤ 9) ∧ ν (-6903) 0 = ν (-200) 0 ∧ (∀ k : Int, 0 ≤ k → k < 3 → ν 71 k = ν 3 k ∧ ν 72 k = ν 4 k ∧ ν 73 k = ν 5 k) ∧ (∀ t : Int, 0 ≤ t → t < 41 → ν 74 t = ν 6 t) ∧ ν (-6908) 0 = ν (-204) 0 ∧ ν (-6909) 0 = ν (-205) 0
def aSt : List Int := [-200, 3, 4, 5, 6, -204, -205, -6903, 71, 72, 73, 74, -6908, -6909]
theorem iSt_eq {ν ν' : gN} (e : ∀ b ∈ aSt, ν' b = ν b) (h : iSt ν) : iSt ν' := by
  unfold iSt
  rw [e (-200) (by decide), e 3 (by decide), e 4 (by decide), e 5 (by decide), e 6 (by decide), e (-204) (by decide), e (-205) (by decide), e (-6903) (by decide), e 71 (by decide), e 72 (by decide), e 73 (by decide), e 74 (by decide), e (-6908) (by decide), e (-6909) (by decide)]
  exact h
theorem iSt.d3 {ν : gN} (h : iSt ν) : nD ν 3 := fun k a b => (h.2.1 k a b).1
theorem iSt.d71 {ν : gN} (h : iSt ν) : nD ν 71 := fun k a b => by rw [(h.2.2.2.2.2.2.1 k a b).1]; exact (h.2.1 k a b).1
theorem iSt.top {ν : gN} (h : iSt ν) : 1 ≤ ν (-6903) 0 ∧ ν (-6903) 0 ≤ 40 := by rw [h.2.2.2.2.2.1]; exact h.1
theorem gfr.eq {W : List Int} {ν ν' : gN} (h : gfr W ν ν') {A : List Int} (hA : ∀ b ∈ A, b ∉ W) : ∀ b ∈ A, ν' b = ν b := fun b hb => h b (hA b hb)
section
variable {T : gT} {ν : gN}
theorem d_X8_allWeights (ht : 1 ≤ ν (-200) 0 ∧ ν (-200) 0 ≤ 40) : gd g_X8_allWeights T ν (gsum (ν 6) ((ν (-200) 0).toNat + 1)) := by
  unfold g_X8_allWeights g_X8_allWeights_4
  refine gd_fx (fun (s : Int × Int) => ∃ j : Nat, s.2 = j ∧ j ≤ ν (-200) 0 + 1 ∧ s.1 = gsum (ν 6) j) (fun s => 50 - s.2.toNat) ⟨0, rfl, by omega, rfl⟩ (by show 50 - (0 : Int).toNat < 100000; omega) ?_
  intro rec s hI hrec
  obtain ⟨j, e2, hj, e1⟩ := hI
  unfold gB_X8_allWeights_4
  refine gd_get ?_
  rw [e2, e1]
  refine gd_cb ⟨⟨by omega, by omega⟩, ⟨by omega, by omega⟩⟩ (fun c => ?_) (fun c => gd_al ⟨by omega, by omega⟩ (gd_let (gd_let (hrec _ ⟨j + 1, by show (j : Int) + 1 = _; omega, by omega, rfl⟩ (by show 50 - ((j : Int) + 1).toNat < 50 - s.2.toNat; rw [e2]; omega)))))
  rw [show j = (ν (-200) 0).toNat + 1 by omega]; exact gd_ret
theorem d_X12_weightsOf {x : Int} (hx : -1 ≤ x ∧ x ≤ 40) : gd (g_X12_weightsOf 0 x) T ν (gsum (ν 74) (x + 1).toNat) := by
  unfold g_X12_weightsOf g_X12_weightsOf_5
  refine gd_fx (fun (s : Int × Int) => ∃ j : Nat, s.2 = j ∧ j ≤ x + 1 ∧ s.1 = gsum (ν 74) j) (fun s => 50 - s.2.toNat) ⟨0, rfl, by omega, rfl⟩ (by show 50 - (0 : Int).toNat < 100000; omega) ?_
  intro rec s hI hrec
  obtain ⟨j, e2, hj, e1⟩ := hI
  unfold gB_X12_weightsOf_5
  rw [e2, e1]
  refine gd_cb ⟨⟨by omega, by omega⟩, ⟨by omega, by omega⟩⟩ (fun c => ?_) (fun c => gd_al ⟨by omega, by omega⟩ (gd_let (gd_let (hrec _ ⟨j + 1, by show (j : Int) + 1 = _; omega, by omega, rfl⟩ (by show 50 - ((j : Int) + 1).toNat < 50 - s.2.toNat; rw [e2]; omega)))))
  rw [show j = (x + 1).toNat by omega]; exact gd_ret
theorem gsum_w {w : Int → Int} (n : Nat) (hn : n ≤ 41) (h : ∀ t : Int, 0 ≤ t → t < 41 → 0 ≤ w t ∧ w t ≤ 99) : 0 ≤ gsum w n ∧ gsum w n ≤ 99 * n :=
  ⟨gsum_nonneg n (fun i hi => (h i (by omega) (by omega)).1), gsum_bound n (fun i hi => (h i (by omega) (by omega)).2)⟩
/-- the first strength up to which the weights are more than n -/
def stF (w : Int → Int) (n t : Int) : Prop := 0 ≤ t ∧ gsum w t.toNat ≤ n ∧ n < gsum w (t.toNat + 1)
theorem stF_one {w : Int → Int} {n t t' : Int} (hw : ∀ t : Int, 0 ≤ t → t < 41 → 0 ≤ w t ∧ w t ≤ 99) (h40 : t ≤ 40) (h40' : t' ≤ 40) (h : stF w n t) (h' : stF w n t') : t = t' := by
  obtain ⟨h1, h2, h3⟩ := h
  obtain ⟨g1, g2, g3⟩ := h'
  have c1 : ¬ t < t' := fun c => by
    have := gsum_more (f := w) (n := t.toNat + 1) (m := t'.toNat) (by omega) (fun i hi => (hw i (by omega) (by omega)).1)
    omega
  have c2 : ¬ t' < t := fun c => by
    have := gsum_more (f := w) (n := t'.toNat + 1) (m := t.toNat) (by omega) (fun i hi => (hw i (by omega) (by omega)).1)
    omega
  omega
theorem d_X8_strengthBehind {n : Int} (ht : 1 ≤ ν (-200) 0 ∧ ν (-200) 0 ≤ 40) (hw : ∀ t : Int, 0 ≤ t → t < 41 → 0 ≤ ν 6 t ∧ ν 6 t ≤ 99) (hn : 0 ≤ n ∧ n < gsum (ν 6) ((ν (-200) 0).toNat + 1)) : ∃ t, gd (g_X8_strengthBehind n) T ν t ∧ stF (ν 6) n t ∧ t ≤ ν (-200) 0 := by
  have hall := gsum_w (w := ν 6) ((ν (-200) 0).toNat + 1) (by omega) hw
  have h : gv (g_X8_strengthBehind n) T ν (fun r ν' => (stF (ν 6) n r ∧ r ≤ ν (-200) 0) ∧ ν' = ν) := by
    unfold g_X8_strengthBehind g_X8_strengthBehind_4
    refine gv_fx (fun (s : Int × Int) τ => τ = ν ∧ ∃ j : Nat, s.2 = j ∧ j ≤ ν (-200) 0 ∧ s.1 = gsum (ν 6) j ∧ gsum (ν 6) j ≤ n) (fun s _ => 50 - s.2.toNat) ⟨rfl, 0, rfl, by omega, rfl, hn.1⟩ (by show 50 - (0 : Int).toNat < 100000; omega) ?_
    intro rec s τ hI hrec
    obtain ⟨rfl, j, e2, hj, e1, hle⟩ := hI
    unfold gB_X8_strengthBehind_4
    refine gv_get ?_
    rw [e2, e1]
    have h1 := gsum_w (w := τ 6) j (by omega) hw
    have h2 := gsum_w (w := τ 6) (j + 1) (by omega) hw
    have es : gsum (τ 6) (j + 1) = gsum (τ 6) j + τ 6 j := rfl
    refine gv_cb ⟨⟨by omega, by omega⟩, ⟨by omega, by omega⟩⟩ (fun c => by omega) (fun c => gv_al ⟨by omega, by omega⟩ (gv_let (gv_cb ⟨⟨by omega, by omega⟩, ⟨by omega, by omega⟩⟩ (fun c2 => gv_let ?_) (fun c2 => gv_ret ⟨⟨⟨by omega, by rw [Int.toNat_natCast]; exact hle, by rw [Int.toNat_natCast, es]; omega⟩, by omega⟩, rfl⟩))))
    have hjt : (j : Int) < τ (-200) 0 := by
      apply Classical.byContradiction
      intro hc
      rw [show (τ (-200) 0).toNat + 1 = j + 1 by omega] at hn
      omega
    exact hrec _ _ ⟨rfl, j + 1, by show (j : Int) + 1 = _; omega, by omega, rfl, by rw [es]; exact c2⟩ (by show 50 - ((j : Int) + 1).toNat < 50 - s.2.toNat; rw [e2]; omega)
  obtain ⟨r, ν', h1, h2, rfl⟩ := h
  exact ⟨r, h1, h2⟩
/-- the number of a seed -/
def sdN (seed : Int) : Int := hf_andl ((seed * 1103515245) + 12345) 2147483647
theorem sdN_in (seed : Int) : 0 ≤ sdN seed ∧ sdN seed ≤ 2147483647 := by
  unfold sdN hf_andl
  have e : (Int64.ofInt (seed * 1103515245 + 12345) &&& Int64.ofInt 2147483647).toInt = (((Int64.ofInt (seed * 1103515245 + 12345)).toBitVec &&& (2147483647 : BitVec 64)).toInt) := rfl
  rw [e]
  have h2 : ((Int64.ofInt (seed * 1103515245 + 12345)).toBitVec &&& (2147483647 : BitVec 64)).toNat ≤ 2147483647 := by
    rw [BitVec.toNat_and]
    exact Nat.and_le_right
  rw [BitVec.toInt_eq_toNat_of_lt (by omega)]
  omega
def sdS (seed all : Int) : Int := ((sdN seed).tdiv 65536).tmod all
theorem sdS_in {seed all : Int} (h : 0 < all) : 0 ≤ sdS seed all ∧ sdS seed all < all := by
  unfold sdS
  have h1 := (sdN_in seed).1
  have h2 : 0 ≤ (sdN seed).tdiv 65536 := Int.tdiv_nonneg h1 (by decide)
  exact ⟨Int.tmod_nonneg _ h2, Int.tmod_lt_of_pos _ h⟩
theorem tdiv_in {a : Int} (h : 0 ≤ a ∧ a ≤ 2147483647) : 0 ≤ a.tdiv 65536 ∧ a.tdiv 65536 ≤ 2147483647 := by
  refine ⟨Int.tdiv_nonneg h.1 (by decide), ?_⟩
  have := Int.tdiv_le_self 65536 h.1
  omega
/-- what the hand's rows say -/
def hdK (ν : gN) (f : Nat) : Prop := f ≤ 100 ∧ ν (-6111) 0 = f ∧ ν (-6965) 0 = f ∧ (0 ≤ ν (-6108) 0 ∧ ν (-6108) 0 ≤ 40) ∧ ν (-6964) 0 = ν (-6108) 0 ∧ (∀ i : Int, 0 ≤ i → i < f → (0 ≤ ν 101 i ∧ ν 101 i < 3) ∧ (1 ≤ ν 102 i ∧ ν 102 i ≤ 40) ∧ (0 ≤ ν 103 i ∧ ν 103 i ≤ 1000))
  ∧ (∀ i : Int, 0 ≤ i → i < f → ν 63 i = ν 101 i ∧ ν 65 i = hbk (ν 3) (ν 101) (ν 102) (ν (-6108) 0) i ∧ ν 66 i = hlo (ν 3) (ν 101) (ν 102) (ν (-6108) 0) i.toNat ∧ ν 67 i = hhi (ν 3) (ν 101) (ν 102) (ν (-6108) 0) (ν (-200) 0) i.toNat ∧ ν 68 i = gsum (ν 103) i.toNat)
  ∧ ν (-6109) 0 = hlo (ν 3) (ν 101) (ν 102) (ν (-6108) 0) f ∧ ν (-6110) 0 = hhi (ν 3) (ν 101) (ν 102) (ν (-6108) 0) (ν (-200) 0) f ∧ ν (-6113) 0 = gsum (ν 103) f ∧ (∀ k : Int, 0 ≤ k → k < 3 → ν 62 k = hlf (ν 4) (ν 3) (ν 101) (ν 102) (ν (-6108) 0) k f ∧ 0 ≤ ν 62 k)
def iHd (ν : gN) : Prop := (ν (-114) 0 = 0 ∧ ν (-6963) 0 = 0) ∨ (ν (-114) 0 = 1 ∧ ν (-6963) 0 = 1 ∧ ∃ f : Nat, hdK ν f)
def aHd : List Int := [-114, -6963, -6111, -6965, -6108, -6964, 101, 102, 103, 63, 65, 66, 67, 68, 62, -6109, -6110, -6113, 3, 4, -200]
theorem iHd_eq {ν ν' : gN} (e : ∀ b ∈ aHd, ν' b = ν b) (h : iHd ν) : iHd ν' := by
  unfold iHd hdK
  rw [e (-114) (by decide), e (-6963) (by decide), e (-6111) (by decide), e (-6965) (by decide), e (-6108) (by decide), e (-6964) (by decide), e 101 (by decide), e 102 (by decide), e 103 (by decide), e 63 (by decide), e 65 (by decide), e 66 (by decide), e 67 (by decide), e 68 (by decide), e 62 (by decide), e (-6109) (by decide), e (-6110) (by decide), e (-6113) (by decide), e 3 (by decide), e 4 (by decide), e (-200) (by decide)]
  exact h
def wHd : List Int := [-6902, -114, -6963, -6964, -6965, 101, 102, 103, 62, 63, 64, 65, 66, 67, 68, -6108, -6109, -6110, -6111, -6112, -6113]
theorem c_begin {seed : Int} (hs : -2147483648 ≤ seed ∧ seed ≤ 2147483647) (h : iSt ν) (hh : iHd ν) : gb (g_X11_begin seed) (g_X12_begin seed) T ν (fun r ν' => (r = 0 ∨ r = 1) ∧ gfr wHd ν ν' ∧ iHd ν') := by
  have ht := h.1
  have hw := h.2.2.1
  have hall := gsum_w (w := ν 6) ((ν (-200) 0).toNat + 1) (by omega) hw
  have h74 : ∀ n : Nat, n ≤ 41 → gsum (ν 74) n = gsum (ν 6) n := fun n hn => gsum_congr n (fun i hi => h.2.2.2.2.2.2.2.1 i (by omega) (by omega))
  have eall : gsum (ν 74) (ν (-200) 0 + 1).toNat = gsum (ν 6) ((ν (-200) 0).toNat + 1) := by rw [show (ν (-200) 0 + 1).toNat = (ν (-200) 0).toNat + 1 by omega]; exact h74 _ (by omega)
  have hsd := sdN_in seed
  have htd := tdiv_in hsd
  unfold gb g_X11_begin
  refine gv_rd (d_X8_allWeights ht) (gv_cz hs (fun c => gv_ret ?_) (fun c => gv_cz ⟨by omega, by omega⟩ (fun c2 => ?_) (fun c2 => gv_ret ?_)))
  · unfold g_X12_begin
    refine gv_put (gv_get ?_)
    simp (disch := decide) only [gup_ne]
    rw [h.2.2.2.2.2.1]
    refine gv_rd (d_X12_weightsOf ⟨by omega, by omega⟩) (gv_cz hs (fun _ => gv_ret ⟨by simp, by simp, (gfr.refl _ _).up (by decide), iHd_eq (((gfr.refl [-6902] ν).up (by decide)).eq (by decide)) hh⟩) (fun h => absurd c h))
  · refine gv_ck hs (gv_let ?_)
    show gv (gdvl (sdN seed) 65536 _) T ν _
    refine gv_dvl ⟨⟨by omega, by omega⟩, ⟨by omega, by omega⟩, by omega⟩ (gv_ck ⟨by omega, by omega⟩ (gv_rml ⟨⟨by omega, by omega⟩, ⟨by omega, by omega⟩, by omega⟩ ?_))
    have hss := sdS_in (seed := seed) c2
    show gv (gbd (g_X8_strengthBehind (sdS seed (gsum (ν 6) ((ν (-200) 0).toNat + 1)))) _) T ν _
    obtain ⟨t, hd, hst, htt⟩ := d_X8_strengthBehind (T := T) ht hw hss
    refine gv_rd hd (gv_call (s_X1_start_o61 ht) (fun _ ν1 h1 => gv_put (gv_ret ?_)))
    obtain ⟨hf1, q1, q2, q3, q4, q5, q6, q7⟩ := h1
    have hst0 := hst.1
    unfold g_X12_begin
    refine gv_put (gv_get ?_)
    simp (disch := decide) only [gup_ne]
    rw [hf1 (-6903) (by decide), h.2.2.2.2.2.1]
    refine gv_rd (d_X12_weightsOf ⟨by omega, by omega⟩) ?_
    rw [show gup (gup ν1 (-114) 0 1) (-6902) 0 0 74 = ν 74 from ((gup_ne (by decide)).trans (gup_ne (by decide))).trans (hf1 74 (by decide)), eall]
    refine gv_cz hs (fun h => absurd h c) (fun _ => gv_cz ⟨by omega, by omega⟩ (fun _ => gv_ck hs (gv_let ?_)) (fun h => by omega))
    show gv (gdvl (sdN seed) 65536 _) T _ _
    refine gv_dvl ⟨⟨by omega, by omega⟩, ⟨by omega, by omega⟩, by omega⟩ (gv_ck ⟨by omega, by omega⟩ (gv_rml ⟨⟨by omega, by omega⟩, ⟨by omega, by omega⟩, by omega⟩ (gv_put ?_)))
    show gv (g_X12_begin_56 (sdS seed (gsum (ν 6) ((ν (-200) 0).toNat + 1)))) T _ _
    unfold g_X12_begin_56
    refine gv_fx (fun (_ : Unit) τ => ∃ j : Nat, τ (-6964) 0 = j ∧ j ≤ t ∧ gfr wHd ν τ ∧ gfr [-6902, -6964, -114] ν1 τ ∧ τ (-114) 0 = 1) (fun _ τ => 50 - (τ (-6964) 0).toNat) ⟨0, gup_at _ _ _ _, by omega, ((((hf1.mono (by decide)).up (by decide)).up (by decide)).up (by decide)), (((gfr.refl _ _).up (by decide)).up (by decide)).up (by decide), by simp (disch := decide) only [gup_ne, gup_at]⟩ (by omega) ?_
    intro rec _ τ hI hrec
    obtain ⟨j, e1, hj, hf, hg, h114⟩ := hI
    unfold gB_X12_begin_56
    refine gv_get ?_
    rw [e1]
    refine gv_rd (d_X12_weightsOf ⟨by omega, by omega⟩) ?_
    rw [hf 74 (by decide), show ((j : Int) + 1).toNat = j + 1 by omega, h74 (j + 1) (by omega)]
    have hwj := gsum_w (w := ν 6) (j + 1) (by omega) hw
    refine gv_cb ⟨⟨by omega, by omega⟩, ⟨by omega, by omega⟩⟩ (fun c3 => gv_put (gv_put (gv_ret ?_))) (fun c3 => gv_get (gv_put (hrec _ _ ?_ ?_)))
    · have ej : (j : Int) = t := by
        refine stF_one (w := ν 6) hw (by omega) (by omega) ⟨by omega, ?_, by rw [Int.toNat_natCast]; exact c3⟩ hst
        rw [Int.toNat_natCast]
        have := gsum_more (f := ν 6) (n := j) (m := t.toNat) (by omega) (fun i hi => (hw i (by omega) (by omega)).1)
        have := hst.2.1
        omega
      refine ⟨by simp, by simp, (hf.up (by decide)).up (by decide), Or.inr ⟨?_, ?_, 0, by omega, ?_, ?_, ?_, ?_, fun i a b => by omega, fun i a b => by omega, ?_, ?_, ?_, fun k a b => ⟨?_, ?_⟩⟩⟩
      · simp (disch := decide) only [gup_ne]; exact h114
      · simp (disch := decide) only [gup_ne, gup_at]
      · simp (disch := decide) only [gup_ne]; rw [hg (-6111) (by decide)]; exact q5
      · simp (disch := decide) only [gup_ne, gup_at]; rfl
      · simp (disch := decide) only [gup_ne]; rw [hg (-6108) (by decide), q2]; omega
      · simp (disch := decide) only [gup_ne]; rw [hg (-6108) (by decide), q2, e1]; exact ej
      · simp (disch := decide) only [gup_ne]; rw [hg (-6109) (by decide), q3]; rfl
      · simp (disch := decide) only [gup_ne]; rw [hg (-6110) (by decide), q4, hf (-200) (by decide)]; rfl
      · simp (disch := decide) only [gup_ne]; rw [hg (-6113) (by decide), q7]; rfl
      · simp (disch := decide) only [gup_ne]; rw [hg 62 (by decide), q1 k a b, hf 4 (by decide)]; unfold hlf; show ν 4 k = ν 4 k - 0; omega
      · simp (disch := decide) only [gup_ne]; rw [hg 62 (by decide), q1 k a b]; exact (h.2.1 k a b).2.1.1
    · have hjt : (j : Int) ≠ t := fun e => by
        have := hst.2.2
        rw [← e, Int.toNat_natCast] at this
        omega
      exact ⟨j + 1, by rw [gup_at, e1]; omega, by omega, hf.up (by decide), hg.up (by decide), by simp (disch := decide) only [gup_ne]; exact h114⟩
    · show 50 - (gup τ (-6964) 0 (τ (-6964) 0 + 1) (-6964) 0).toNat < 50 - (τ (-6964) 0).toNat
      rw [gup_at, e1]; omega
  · unfold g_X12_begin
    refine gv_put (gv_get ?_)
    simp (disch := decide) only [gup_ne]
    rw [h.2.2.2.2.2.1]
    refine gv_rd (d_X12_weightsOf ⟨by omega, by omega⟩) ?_
    rw [show gup ν (-6902) 0 0 74 = ν 74 from gup_ne (by decide), eall]
    refine gv_cz hs (fun h => absurd h c) (fun _ => gv_cz ⟨by omega, by omega⟩ (fun h => by omega) (fun _ => gv_ret ⟨by simp, by simp, (gfr.refl _ _).up (by decide), iHd_eq (((gfr.refl [-6902] ν).up (by decide)).eq (by decide)) hh⟩))
end
