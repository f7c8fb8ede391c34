/-! EDGE: the table's search -/
/-- parts of a code: their rows are there, each its own -/
def eRw (T : gT) (ν : gN) (code : Int) : Prop := (∀ c : Int, 0 ≤ c → c ≤ code → wit c code → arr T (ν 40 c) 861) ∧ (∀ c c' : Int, 0 ≤ c → c ≤ code → 0 ≤ c' → c' ≤ code → wit c code → wit c' code → c ≠ c' → ν 40 c ≠ ν 40 c')
section
variable {T : gT} {ν : gN}
theorem s_X0_fillAgain {p : bP} {k code : Int} (hp : eqC ν p) (hok : okP p) (h06 : 0 ≤ ν (-3906) 0 ∧ ν (-3906) 0 ≤ 1) (hk : isK k) (hcode : 0 ≤ code ∧ code < 125) (hpk : 0 < pcs code k) (hR : eRw T ν code) (hV : ∀ c : Int, 0 ≤ c → c ≤ code → wit c code → pcs c k = 0 → rowV T ν p c) :
    gv (g_X0_fillAgain code k) T ν (fun _ ν' => (∀ b : Int, b ∉ [-3915, -3916, -3917] → ¬ (∃ c : Int, 0 ≤ c ∧ c ≤ code ∧ wit c code ∧ ν 40 c = b) → ν' b = ν b) ∧ (∀ c : Int, 0 ≤ c → c < code → wit c code → rowV T ν' p c) ∧ (∀ a : Int, 0 ≤ a → a ≤ bTop p → ν' (ν 40 code) (spn a (bTop p)) = bcl (bv p a (bTop p) code)) ∧ ∀ c : Int, 0 ≤ c → c ≤ code → wit c code → pcs c k = 0 → rowV T ν' p c) := by
  have htop := hok.1
  have e05 := hp.2.1
  have nlow : ∀ b : Int, b ≤ 104 → ¬ (∃ c : Int, 0 ≤ c ∧ c ≤ code ∧ wit c code ∧ ν 40 c = b) := fun b hb ⟨c, c1, c2, c3, c4⟩ => by
    have := (hR.1 c c1 c2 c3).2.1
    omega
  unfold g_X0_fillAgain g_X0_fillAgain_2
  refine gv_fx (fun (x : Int) τ => (0 ≤ x ∧ x ≤ code + 1) ∧ (∀ b : Int, b ∉ [-3915, -3916, -3917] → ¬ (∃ c : Int, 0 ≤ c ∧ c ≤ code ∧ wit c code ∧ ν 40 c = b) → τ b = ν b) ∧ (∀ c : Int, 0 ≤ c → c < x → c < code → wit c code → rowV T τ p c) ∧ (∀ c : Int, 0 ≤ c → c ≤ code → wit c code → pcs c k = 0 → rowV T τ p c) ∧ (code < x → ∀ a : Int, 0 ≤ a → a ≤ bTop p → τ (ν 40 code) (spn a (bTop p)) = bcl (bv p a (bTop p) code))) (fun x _ => (200 - x).toNat) ⟨by omega, fun b _ _ => rfl, fun c c1 c2 => by omega, hV, fun h => by omega⟩ (by omega) ?_
  intro rec x τ hI hrec
  obtain ⟨hx, hf, iL, iZ, iC⟩ := hI
  have n : ∀ b : Int, b ≤ 104 → b ∉ ([-3915, -3916, -3917] : List Int) → τ b = ν b := fun b hb hn => hf b hn (nlow b hb)
  have eR : ∀ b ∈ aBp, τ b = ν b := fun b hb => n b (aBp_le b hb) (fun hh => aBp_no b hb (by revert hh; simp only [List.mem_cons, List.not_mem_nil, or_false]; omega))
  have e40 : τ 40 = ν 40 := n 40 (by decide) (by decide)
  unfold gB_X0_fillAgain_2 g_X0_fillAgain_41 g_X0_fillAgain_38 g_X0_fillAgain_41
  refine gv_cb ⟨⟨by omega, by omega⟩, ⟨by omega, by omega⟩⟩ (fun c1 => gv_ret ⟨hf, fun c c3 c4 w => iL c c3 (by omega) c4 w, iC c1, iZ⟩) (fun c1 => gv_rd (d_X0_isPartOf ⟨by omega, by omega⟩ hcode) ?_)
  by_cases cw : wit x code
  · rw [if_pos (show pcs x 0 ≤ pcs code 0 ∧ pcs x 1 ≤ pcs code 1 ∧ pcs x 2 ≤ pcs code 2 from cw)]
    have hpi := pcs_in (c := x) (k := k)
    refine gv_cz (by decide) (fun h => absurd h (by decide)) (fun _ => gv_rd (d_X0_piecesIn hk ⟨by omega, by omega⟩) (gv_cz ⟨by omega, by omega⟩ (fun c2 => gv_let (hrec _ _ ⟨by omega, hf, fun c c3 c4 c5 w => ?_, iZ, fun h => ?_⟩ (by omega))) (fun c2 => ?_)))
    · by_cases e : c = x
      · rw [e]; exact iZ x hx.1 (by omega) cw (by omega)
      · exact iL c c3 (by omega) c5 w
    · exfalso
      have : x = code := by omega
      rw [this] at c2; omega
    · have aR := hR.1 x hx.1 (by omega) cw
      have hless : ∀ j : Int, isK j → 0 < pcs x j → rowV T τ p (x - un j) ∧ τ 40 (x - un j) ≠ τ 40 x := fun j hj hpj => by
        have hu := pcs_un hj hj hx.1 hpj
        have hv := un_val hj
        have hwj := wit_un hj hx.1 hpj cw
        rw [e40]
        exact ⟨iL _ hu.2.2.2 (by omega) (by omega) hwj, fun e => hR.2 x (x - un j) hx.1 (by omega) hu.2.2.2 (by omega) cw hwj (by omega) e.symm⟩
      have hfr := fun fh hfh => s_X0_fillRow (T := T) (ν := τ) (p := p) (c := x) (fh := fh) (eqC_fr eR hp) hok (by rw [eR (-3906) (by decide)]; exact h06) (by omega) hfh (by rw [e40]; exact aR) hless
      rw [e40] at hfr
      have hother : ∀ (ν2 : gN), gfr [-3915, -3916, -3917, ν 40 x] τ ν2 → (∀ b : Int, b ∉ [-3915, -3916, -3917] → ¬ (∃ c : Int, 0 ≤ c ∧ c ≤ code ∧ wit c code ∧ ν 40 c = b) → ν2 b = ν b) ∧ (∀ c : Int, 0 ≤ c → c ≤ code → wit c code → c ≠ x → rowV T τ p c → rowV T ν2 p c) := fun ν2 hg => by
        have aR4 := aR.2.1
        refine ⟨fun b b1 b2 => ?_, fun c c3 c4 w hne hr => ?_⟩
        · rw [hg b (by
            simp only [List.mem_cons, List.not_mem_nil, or_false, not_or] at b1 ⊢
            exact ⟨b1.1, b1.2.1, b1.2.2, fun e => b2 ⟨x, hx.1, by omega, cw, e.symm⟩⟩)]
          exact hf b b1 b2
        · have n40 : ν2 40 = ν 40 := by rw [hg 40 (by simp only [List.mem_cons, List.not_mem_nil, or_false]; omega)]; exact e40
          unfold rowV at hr ⊢
          rw [n40]
          rw [e40] at hr
          refine ⟨hr.1, fun a b a1 a2 a3 => ?_⟩
          have h4 := hr.1.2.1
          rw [hg _ (by
            have := hR.2 c x c3 c4 hx.1 (by omega) w cw hne
            simp only [List.mem_cons, List.not_mem_nil, or_false]; omega)]
          exact hr.2 a b a1 a2 a3
      refine gv_cb ⟨⟨by omega, by omega⟩, ⟨by omega, by omega⟩⟩ (fun c3 => gv_call (hfr 0 (by omega)) (fun _ ν2 h2 => gv_let (hrec _ _ ⟨by omega, (hother ν2 h2.1).1, fun c c4 c5 c6 w => ?_, fun c c4 c5 w hz => ?_, fun h => by omega⟩ (by omega)))) (fun c3 => gv_get ?_)
      · by_cases e : c = x
        · subst e
          unfold rowV
          have n40 : ν2 40 = ν 40 := by rw [h2.1 40 (by have := aR.2.1; simp only [List.mem_cons, List.not_mem_nil, or_false]; omega)]; exact e40
          rw [n40]
          exact ⟨aR, fun a b a1 a2 a3 => h2.2.1 a b a1 a2 (by omega) a3⟩
        · exact (hother ν2 h2.1).2 c c4 (by omega) w e (iL c c4 (by omega) c6 w)
      · exact (hother ν2 h2.1).2 c c4 c5 w (fun e => by rw [e] at hz; omega) (iZ c c4 c5 w hz)
      · have ex : x = code := by omega
        rw [n (-3905) (by decide) (by decide), e05]
        refine gv_call (hfr (bTop p) (by omega)) (fun _ ν2 h2 => gv_let (hrec _ _ ⟨by omega, (hother ν2 h2.1).1, fun c c4 c5 c6 w => ?_, fun c c4 c5 w hz => ?_, fun h a a1 a2 => ?_⟩ (by omega)))
        · exact (hother ν2 h2.1).2 c c4 (by omega) w (by omega) (iL c c4 (by omega) c6 w)
        · exact (hother ν2 h2.1).2 c c4 c5 w (fun e => by rw [e] at hz; omega) (iZ c c4 c5 w hz)
        · rw [← ex]
          exact h2.2.1 a (bTop p) a1 a2 (Int.le_refl _) (Int.le_refl _)
  · rw [if_neg (show ¬ (pcs x 0 ≤ pcs code 0 ∧ pcs x 1 ≤ pcs code 1 ∧ pcs x 2 ≤ pcs code 2) from cw)]
    refine gv_cz (by decide) (fun _ => gv_let (hrec _ _ ⟨by omega, hf, fun c c3 c4 c5 w => ?_, iZ, fun h => ?_⟩ (by omega))) (fun h => absurd rfl h)
    · by_cases e : c = x
      · exact absurd (e ▸ w) cw
      · exact iL c c3 (by omega) c5 w
    · exact absurd (show wit x code by rw [show x = code by omega]; exact wit_refl _) cw
/-- the state of the search -/
def eI (T : gT) (ν0 ν : gN) (p : bP) (k code : Int) : Prop := (∀ b : Int, b ∉ [43, 45, -3915, -3916, -3917] → ¬ (∃ c : Int, 0 ≤ c ∧ c ≤ code ∧ wit c code ∧ ν0 40 c = b) → ν b = ν0 b) ∧ (∃ q : Int, (0 ≤ q ∧ q ≤ 99) ∧ eqC ν (pw p k q)) ∧ (∀ j : Int, j ≠ k → ν 43 j = ν0 43 j) ∧ (∀ c : Int, 0 ≤ c → c ≤ code → wit c code → pcs c k = 0 → rowV T ν p c) ∧ ∀ q : Int, 0 ≤ q → q ≤ 99 → ν 45 q = -1 ∨ ν 45 q = (if (bf (pw p k q) 0 (bTop p) code).2 = (bf p 0 (bTop p) code).2 then bv (pw p k q) 0 (bTop p) code else -2)
/-- what holds at its beginning -/
def eH (T : gT) (ν0 : gN) (p : bP) (k code : Int) : Prop := okP p ∧ isK k ∧ (0 ≤ code ∧ code < 125) ∧ 0 < pcs code k ∧ eRw T ν0 code ∧ (0 ≤ ν0 (-3906) 0 ∧ ν0 (-3906) 0 ≤ 1) ∧ ν0 (-3913) 0 = (bf p 0 (bTop p) code).2.1 ∧ ν0 (-3914) 0 = (bf p 0 (bTop p) code).2.2 ∧ bv p 0 (bTop p) code < 1000000000000 ∧ ν0 (-3905) 0 = bTop p
theorem eI.n {ν0 : gN} {p : bP} {k code : Int} (hH : eH T ν0 p k code) (h : eI T ν0 ν p k code) {b : Int} (hb : b ≤ 104) (hn : b ∉ ([43, 45, -3915, -3916, -3917] : List Int)) : ν b = ν0 b :=
  h.1 b hn (fun ⟨c, c1, c2, c3, c4⟩ => by have := (hH.2.2.2.2.1.1 c c1 c2 c3).2.1; omega)
theorem s_X0_seek {ν0 : gN} {p : bP} {k code q : Int} (hH : eH T ν0 p k code) (hI : eI T ν0 ν p k code) (hq : 0 ≤ q ∧ q ≤ 99) : gv (g_X0_seek q k code) T ν (fun _ ν' => eI T ν0 ν' p k code ∧ ν' 45 q ≠ -1 ∧ ∀ x : Int, ν 45 x ≠ -1 → ν' 45 x = ν 45 x) := by
  obtain ⟨hok, hk, hcode, hpk, hR, h06, h13, h14, hfin, h05⟩ := id hH
  have htop := hok.1
  have hki := isK_in hk
  obtain ⟨i1, ⟨q0, hq0, i2⟩, i3, i4, i5⟩ := id hI
  have hcv : ∀ x : Int, 0 ≤ x → x ≤ 99 → -2 ≤ ν 45 x ∧ ν 45 x ≤ 1000000000 := fun x x1 x2 => by
    have := bv_90 (pw_ok hok (k := k) (q := x) ⟨x1, x2⟩) (low := 0) (high := bTop p) (c := code) (by omega) (by omega) (by omega)
    have hf2 := bv_fin hok (k := k) (q := bPr p k) (q' := x) (hok.2.2.2.1 k hk).2 ⟨x1, x2⟩ _ 0 (bTop p) code rfl (by omega) (by omega) (by omega) (by rw [pw_self]; exact hfin)
    rcases i5 x x1 x2 with g | g
    · omega
    · rw [g]; split <;> omega
  unfold g_X0_seek
  refine gv_al ⟨by omega, by omega⟩ (gv_cb ⟨by have := hcv q hq.1 hq.2; omega, by decide⟩ (fun c1 => gv_ret ⟨hI, c1, fun x _ => rfl⟩) (fun c1 => gv_as hki ?_))
  have c1' : ν 45 q = -1 := Classical.byContradiction c1
  have hokq := pw_ok hok (k := k) hq
  have hp1 : eqC (gup ν 43 k q) (pw p k q) := by
    refine ⟨?_, ?_, ?_, ?_, fun j hj => ⟨?_, ?_⟩, fun t t1 t2 => ?_⟩
    · rw [gup_ne (by decide)]; exact i2.1
    · rw [gup_ne (by decide)]; exact i2.2.1
    · rw [gup_ne (by decide)]; exact i2.2.2.1
    · rw [gup_ne (by decide)]; exact i2.2.2.2.1
    · rw [gup_ne (by decide)]; exact (i2.2.2.2.2.1 j hj).1
    · rw [gup_same, pw_pr]
      by_cases e : j = k
      · rw [if_pos e, if_pos e]
      · rw [if_neg e, if_neg e]
        have := (i2.2.2.2.2.1 j hj).2
        rw [pw_pr, if_neg e] at this
        exact this
    · rw [gup_ne (by decide)]; exact i2.2.2.2.2.2 t t1 t2
  have e40 : ν 40 = ν0 40 := hI.n hH (by decide) (by decide)
  have hR1 : eRw T (gup ν 43 k q) code := by unfold eRw; rw [gup_ne (by decide), e40]; exact hR
  have hzero : ∀ c : Int, 0 ≤ c → pcs c k = 0 → ∀ a b : Int, bv (pw p k q) a b c = bv p a b c := fun c c1 c2 a b => (bv_none (p := p) hk q _ a b c rfl c1 c2).1
  have hV1 : ∀ c : Int, 0 ≤ c → c ≤ code → wit c code → pcs c k = 0 → rowV T (gup ν 43 k q) (pw p k q) c := fun c c3 c4 w hz => by
    have hr := i4 c c3 c4 w hz
    have h4 := hr.1.2.1
    unfold rowV at hr ⊢
    rw [gup_ne (show (40 : Int) ≠ 43 by decide)]
    refine ⟨hr.1, fun a b a1 a2 a3 => ?_⟩
    rw [gup_ne (by omega), hzero c c3 hz]
    exact hr.2 a b a1 a2 a3
  refine gv_call (s_X0_fillAgain hp1 hokq (by rw [gup_ne (by decide), hI.n hH (by decide) (by decide)]; exact h06) hk hcode hpk hR1 hV1) (fun _ ν1 h1 => gv_get ?_)
  rw [gup_ne (show (40 : Int) ≠ 43 by decide), e40] at h1
  obtain ⟨u1, u2, u3, u4⟩ := h1
  have nlow : ∀ b : Int, b ≤ 104 → ¬ (∃ c : Int, 0 ≤ c ∧ c ≤ code ∧ wit c code ∧ ν0 40 c = b) := fun b hb ⟨c, c1, c2, c3, c4⟩ => by
    have := (hR.1 c c1 c2 c3).2.1
    omega
  have n1 : ∀ b : Int, b ≤ 104 → b ∉ ([-3915, -3916, -3917] : List Int) → ν1 b = gup ν 43 k q b := fun b hb hn => u1 b hn (nlow b hb)
  have e40' : ν1 40 = ν0 40 := by rw [n1 40 (by decide) (by decide), gup_ne (by decide)]; exact e40
  have eR1 : ∀ b ∈ aBp, ν1 b = gup ν 43 k q b := fun b hb => n1 b (aBp_le b hb) (fun hh => aBp_no b hb (by revert hh; simp only [List.mem_cons, List.not_mem_nil, or_false]; omega))
  have e05' : ν1 (-3905) 0 = bTop p := by rw [eR1 (-3905) (by decide)]; exact hp1.2.1
  rw [e05']
  have hRc := hR.1 code hcode.1 (Int.le_refl _) (wit_refl _)
  have hless : lessR T ν1 (pw p k q) code 0 (bTop p) := by
    intro j hj hpj
    have hu := pcs_un hj hj hcode.1 hpj
    have hv := un_val hj
    have := u2 (code - un j) hu.2.2.2 (by omega) (wit_un hj hcode.1 hpj (wit_refl _))
    exact ⟨this.1, fun b b1 b2 => this.2 0 b (by omega) b1 (by show b ≤ bTop p; omega)⟩
  refine gv_call (s_X0_pick (p := pw p k q) (c := code) (low := 0) (high := bTop p) (eqC_fr eR1 hp1) hokq (by rw [eR1 (-3906) (by decide), gup_ne (by decide), hI.n hH (by decide) (by decide)]; exact h06) hcode ⟨by omega, by omega, Int.le_refl _⟩ (by rw [e40']; exact hRc) (fun e e1 e2 => by rw [e40']; exact u3 e (by omega) e2) hless) (fun r ν2 h2 => ?_)
  obtain ⟨v1, v2, v3, v4, v5⟩ := h2
  have hfq := bv_fin hok (k := k) (q := bPr p k) (q' := q) (hok.2.2.2.1 k hk).2 hq _ 0 (bTop p) code rfl (by omega) (by omega) (by omega) (by rw [pw_self]; exact hfin)
  have hbq := bv_90 hokq (low := 0) (high := bTop p) (c := code) (by omega) (by omega) (by omega)
  have er : r = bv (pw p k q) 0 (bTop p) code := by rw [v1]; exact if_pos hfq
  have n2 : ∀ b : Int, b ≤ 104 → b ∉ ([-3915, -3916, -3917] : List Int) → ν2 b = gup ν 43 k q b := fun b hb hn => by rw [v2 b hn]; exact n1 b hb hn
  have hbk := bf_kind hok (c := code) (show (0 : Int) ≤ 0 by omega) (show bTop p ≤ 40 by omega) (by omega)
  have hbk2 := bf_kind hokq (c := code) (show (0 : Int) ≤ 0 by omega) (show bTop p ≤ 40 by omega) (by omega)
  have k13 : ν2 (-3913) 0 = (bf p 0 (bTop p) code).2.1 := by rw [n2 (-3913) (by decide) (by decide), gup_ne (by decide), hI.n hH (by decide) (by decide)]; exact h13
  have k14 : ν2 (-3914) 0 = (bf p 0 (bTop p) code).2.2 := by rw [n2 (-3914) (by decide) (by decide), gup_ne (by decide), hI.n hH (by decide) (by decide)]; exact h14
  have far2 : ∀ b : Int, 104 < b → ν2 b = ν1 b := fun b hb => v2 b (by simp only [List.mem_cons, List.not_mem_nil, or_false]; omega)
  have h62 : ∀ s0 : Int, (s0 = 0 ∨ s0 = 1) → (s0 = 1 ↔ (bf (pw p k q) 0 (bTop p) code).2 = (bf p 0 (bTop p) code).2) → gv (g_X0_seek_62 q r s0) T ν2 (fun _ ν' => eI T ν0 ν' p k code ∧ ν' 45 q ≠ -1 ∧ ∀ x : Int, ν 45 x ≠ -1 → ν' 45 x = ν 45 x) := fun s0 hs0 hiff => by
    have hval : (if s0 = 0 then (-2 : Int) else r) = (if (bf (pw p k q) 0 (bTop p) code).2 = (bf p 0 (bTop p) code).2 then bv (pw p k q) 0 (bTop p) code else -2) := by
      by_cases cF : (bf (pw p k q) 0 (bTop p) code).2 = (bf p 0 (bTop p) code).2
      · rw [if_pos cF, if_neg (by have := hiff.mpr cF; omega), er]
      · rw [if_neg cF, if_pos (by rcases hs0 with g | g; exact g; exact absurd (hiff.mp g) cF)]
    unfold g_X0_seek_62
    refine gv_ck ⟨by omega, by omega⟩ (gv_let (gv_as ⟨by omega, by omega⟩ (gv_ret ?_)))
    rw [hval]
    have n45 : ν2 45 = ν 45 := by rw [n2 45 (by decide) (by decide), gup_ne (by decide)]
    refine ⟨⟨fun b b1 b2 => ?_, ⟨q, hq, ?_⟩, fun j hj => ?_, fun c c3 c4 w hz => ?_, fun x x1 x2 => ?_⟩, ?_, fun x hx => ?_⟩
    · simp only [List.mem_cons, List.not_mem_nil, or_false, not_or] at b1
      rw [gup_ne (by omega), v2 b (by simp only [List.mem_cons, List.not_mem_nil, or_false]; omega), u1 b (by simp only [List.mem_cons, List.not_mem_nil, or_false]; omega) b2, gup_ne (by omega)]
      exact i1 b (by simp only [List.mem_cons, List.not_mem_nil, or_false]; omega) b2
    · exact eqC_fr (fun b hb => (gup_ne (fun e => by rw [e] at hb; exact absurd hb (by decide))).trans (n2 b (aBp_le b hb) (fun hh => aBp_no b hb (by revert hh; simp only [List.mem_cons, List.not_mem_nil, or_false]; omega)))) hp1
    · rw [gup_ne (by decide), n2 43 (by decide) (by decide), gup_same, if_neg hj]; exact i3 j hj
    · have hr := u4 c c3 c4 w hz
      have h4 := hr.1.2.1
      unfold rowV at hr ⊢
      rw [gup_ne (show (40 : Int) ≠ 45 by decide), v2 40 (by decide)]
      refine ⟨hr.1, fun a b a1 a2 a3 => ?_⟩
      rw [gup_ne (by omega), far2 _ h4, ← hzero c c3 hz]
      exact hr.2 a b a1 a2 a3
    · rw [gup_same, n45]
      by_cases e : x = q
      · rw [if_pos e, e]; exact Or.inr rfl
      · rw [if_neg e]; exact i5 x x1 x2
    · rw [gup_at]
      split <;> omega
    · rw [gup_same, n45, if_neg (fun e => hx (by rw [e]; exact c1'))]
  refine gv_get (gv_get ?_)
  rw [v4, k13]
  refine gv_cb ⟨⟨by omega, by omega⟩, ⟨by omega, by omega⟩⟩ (fun c2 => h62 0 (Or.inl rfl) ⟨fun h => by omega, fun h => absurd (by rw [h]) c2⟩) (fun c2 => gv_get (gv_get ?_))
  rw [v5, k14]
  refine gv_cb ⟨⟨by omega, by omega⟩, ⟨by omega, by omega⟩⟩ (fun c3 => h62 0 (Or.inl rfl) ⟨fun h => by omega, fun h => absurd (by rw [h]) c3⟩) (fun c3 => h62 1 (Or.inr rfl) ⟨fun _ => Prod.ext (by omega) (by omega), fun _ => rfl⟩)
end
