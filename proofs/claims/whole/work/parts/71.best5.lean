/-! BEST: rows filled -/
theorem bfk_in {p : bP} (hok : okP p) {low high c : Int} (h0 : 0 ≤ low) (h1 : low < high) (h40 : high ≤ 40) : ∀ j : Nat, j ≤ 3 → 0 ≤ (bfk p low high c j).1 ∧ ((bfk p low high c j).1 ≤ 90596880 ∨ (bfk p low high c j).1 = 1000000000000) := by
  intro j
  induction j with
  | zero =>
    intro _
    show 0 ≤ (if low = high then (0 : Int) else 1000000000000) ∧ ((if low = high then (0 : Int) else 1000000000000) ≤ 90596880 ∨ (if low = high then (0 : Int) else 1000000000000) = 1000000000000)
    rw [if_neg (by omega)]; omega
  | succ j ih =>
    intro hj
    have hi := ih (by omega)
    have hk : isK (j : Int) := isK_of (by omega)
    show 0 ≤ (af _ _ _ _ (bfk p low high c j) _).1 ∧ ((af _ _ _ _ (bfk p low high c j) _).1 ≤ 90596880 ∨ (af _ _ _ _ (bfk p low high c j) _).1 = 1000000000000)
    rw [af_fst]
    have hcd : ∀ i : Nat, i < (high - low).toNat → 0 ≤ bc p low high c j (low + 1 + i) ∧ (bc p low high c j (low + 1 + i) ≤ 90596880 ∨ bc p low high c j (low + 1 + i) = 1000000000000) := fun i hj => by
      have a1 := bv_in hok _ (low + 1 + i) high c rfl (by omega) (by omega) h40
      have a2 := bv_in hok _ low (low + 1 + i - 1) (c - un j) rfl h0 (by omega) (by omega)
      have a3 := bx_in hok (c := c) hk h0 h40 (e := low + 1 + i) ⟨by omega, by omega⟩ a1.1 a2.1
      unfold bc
      refine ⟨a3.1, ?_⟩
      rcases a3.2 with g | ⟨g1, g2, g3⟩
      · exact Or.inr g
      · left; omega
    refine ⟨le_gmn _ hi.1 (fun i hi => (hcd i hi).1), ?_⟩
    rcases gmn_mem (bc p low high c j) (low + 1) (bfk p low high c j).1 (high - low).toNat with g | ⟨i, hi2, g⟩
    · rw [g]; exact hi.2
    · rw [g]; exact (hcd i hi2).2
section
variable {T : gT} {ν : gN}
theorem d_X11_unitOf {k : Int} (h : isK k) : gd (g_X11_unitOf k) T ν (un k) := by
  unfold g_X11_unitOf
  rcases h with rfl | rfl | rfl
  · exact gd_cz (by decide) (fun h => absurd rfl h) (fun _ => gd_ret)
  · exact gd_cz (by decide) (fun _ => gd_cb (by decide) (fun h => absurd rfl h) (fun _ => gd_ret)) (fun h => absurd (by decide) h)
  · exact gd_cz (by decide) (fun _ => gd_cb (by decide) (fun _ => gd_ret) (fun h => absurd (by decide) h)) (fun h => absurd (by decide) h)
theorem d_X0_piecesIn {c k : Int} (h : isK k) (hc : 0 ≤ c ∧ c < 125) : gd (g_X0_piecesIn c k) T ν (pcs c k) := by
  have hv := un_val h
  unfold g_X0_piecesIn pcs
  refine gd_rd (d_X11_unitOf h) (gd_dv ⟨⟨by omega, by omega⟩, ⟨by omega, by omega⟩, by omega⟩ ?_)
  rw [Int.tdiv_eq_ediv_of_nonneg hc.1]
  have h1 : 0 ≤ c / un k ∧ c / un k ≤ 124 := by rcases hv with e | e | e <;> rw [e] <;> omega
  refine gd_rm ⟨⟨by omega, by omega⟩, ⟨by omega, by omega⟩, by omega⟩ ?_
  rw [Int.tmod_eq_emod_of_nonneg h1.1]
  exact gd_ret
theorem d_X0_isPartOf {c l : Int} (hc : 0 ≤ c ∧ c < 125) (hl : 0 ≤ l ∧ l < 125) : gd (g_X0_isPartOf c l) T ν (if pcs c 0 ≤ pcs l 0 ∧ pcs c 1 ≤ pcs l 1 ∧ pcs c 2 ≤ pcs l 2 then 1 else 0) := by
  have k0 : isK 0 := Or.inl rfl
  have k1 : isK 1 := Or.inr (Or.inl rfl)
  have k2 : isK 2 := Or.inr (Or.inr rfl)
  have a0 := pcs_in (c := c) (k := 0)
  have a1 := pcs_in (c := c) (k := 1)
  have a2 := pcs_in (c := c) (k := 2)
  have b0 := pcs_in (c := l) (k := 0)
  have b1 := pcs_in (c := l) (k := 1)
  have b2 := pcs_in (c := l) (k := 2)
  unfold g_X0_isPartOf
  refine gd_rd (d_X0_piecesIn k0 hc) (gd_rd (d_X0_piecesIn k0 hl) (gd_cb ⟨⟨by omega, by omega⟩, ⟨by omega, by omega⟩⟩ (fun x => ?_) (fun x => gd_rd (d_X0_piecesIn k1 hc) (gd_rd (d_X0_piecesIn k1 hl) (gd_cb ⟨⟨by omega, by omega⟩, ⟨by omega, by omega⟩⟩ (fun y => ?_) (fun y => gd_rd (d_X0_piecesIn k2 hc) (gd_rd (d_X0_piecesIn k2 hl) (gd_cb ⟨⟨by omega, by omega⟩, ⟨by omega, by omega⟩⟩ (fun z => ?_) (fun z => ?_)))))))))
  · rw [if_neg (by omega)]; exact gd_ret
  · rw [if_neg (by omega)]; exact gd_ret
  · rw [if_neg (by omega)]; exact gd_ret
  · rw [if_pos (by omega)]; exact gd_ret
/-- the rows of a piece less are there, for these highs -/
def lessR (T : gT) (ν : gN) (p : bP) (c low high : Int) : Prop := ∀ k : Int, isK k → 0 < pcs c k → arr T (ν 40 (c - un k)) 861 ∧ ∀ b : Int, low ≤ b → b < high → ν (ν 40 (c - un k)) (spn low b) = bcl (bv p low b (c - un k))
theorem s_X0_pick {p : bP} {c low high : Int} (hp : eqC ν p) (hok : okP p) (h06 : 0 ≤ ν (-3906) 0 ∧ ν (-3906) 0 ≤ 1) (hc : 0 ≤ c ∧ c < 125) (hl : 0 ≤ low ∧ low < high ∧ high ≤ bTop p) (aR : arr T (ν 40 c) 861) (hS : ∀ e : Int, low < e → e ≤ high → ν (ν 40 c) (spn e high) = bcl (bv p e high c)) (hF : lessR T ν p c low high) :
    gv (g_X0_pick c low high) T ν (fun r ν' => r = bcl (bv p low high c) ∧ gfr [-3915, -3916, -3917] ν ν' ∧ tri ν' (bf p low high c)) := by
  have htop := hok.1
  have hR4 := aR.2.1
  unfold g_X0_pick g_X0_forgetFirst
  refine gv_put (gv_bd (gv_put (gv_put (gv_ret (gv_al ⟨by omega, by omega⟩ ?_)))))
  simp (disch := decide) only [gup_ne]
  unfold g_X0_pick_21
  refine gv_fx (fun (x : Int) τ => ∃ j : Nat, x = j ∧ j ≤ 3 ∧ gfr [-3915, -3916, -3917] ν τ ∧ tri τ (bfk p low high c j)) (fun x _ => 5 - x.toNat) ⟨0, rfl, by omega, (((gfr.refl _ _).up (by decide)).up (by decide)).up (by decide), ?_⟩ (by omega) ?_
  · refine ⟨?_, ?_, ?_⟩
    · simp (disch := decide) only [gup_ne, gup_at]
      show (1000000000 : Int) = bcl (if low = high then 0 else 1000000000000)
      rw [if_neg (by omega)]; rfl
    · simp (disch := decide) only [gup_ne, gup_at]; rfl
    · simp (disch := decide) only [gup_ne, gup_at]; rfl
  · intro rec x τ hI hrec
    obtain ⟨j, rfl, hj, hf, ht⟩ := hI
    have eR : ∀ b ∈ aBp, τ b = ν b := hf.eq (by decide)
    have e40 : τ 40 = ν 40 := hf 40 (by decide)
    have far : ∀ b : Int, 104 < b → τ b = ν b := fun b hb => hf b (by simp only [List.mem_cons, List.not_mem_nil, or_false]; omega)
    unfold gB_X0_pick_21 g_X0_pick_72
    refine gv_cb ⟨⟨by omega, by omega⟩, ⟨by omega, by omega⟩⟩ (fun c1 => gv_get (gv_ret ?_)) (fun c1 => ?_)
    · have ej : j = 3 := by omega
      subst ej
      refine ⟨?_, hf, ht⟩
      rw [ht.1, ← bf_fst p c (show low ≤ high by omega)]
      rfl
    · have hk : isK (j : Int) := isK_of (by omega)
      have hv := un_val hk
      have hpi := pcs_in (c := c) (k := (j : Int))
      have esucc : bfk p low high c (j + 1) = af (bc p low high c j) j (bD p j) (low + 1) (bfk p low high c j) (high - low).toNat := rfl
      have hz : 5 - ((j : Int) + 1).toNat < 5 - (j : Int).toNat := by omega
      refine gv_rd (d_X0_piecesIn hk hc) (gv_cz ⟨by omega, by omega⟩ (fun c2 => gv_let (hrec _ _ ⟨j + 1, by omega, by omega, hf, ?_⟩ hz)) (fun c2 => gv_rd (d_X11_unitOf hk) ?_))
      · have estay : bfk p low high c (j + 1) = bfk p low high c j := by
          rw [esucc, af_stay (a := 0) _ (by omega) (fun i _ hi => ?_)]
          · rfl
          · show (bfk p low high c j).1 ≤ bc p low high c j (low + 1 + i)
            have h1 := bfk_cap p low high c j
            have : bc p low high c j (low + 1 + i) = 1000000000000 := by
              unfold bc bx
              rw [if_neg (fun hh => by have := hh.1; omega)]
            omega
        rw [estay]; exact ht
      · have hu := pcs_un hk hk hc.1 (by omega)
        have hl1 := hF j hk (by omega)
        have hF4 := hl1.1.2.1
        refine gv_al ⟨by omega, by omega⟩ (gv_it (fun h => by omega) (fun _ => gv_it (fun h => by rw [e40] at h; omega) (fun _ => ?_)))
        rw [e40]
        refine gv_call (s_X0_pickOf (p := p) (c := c) (st := bfk p low high c j) (eqC_fr eR hp) hok (by rw [eR (-3906) (by decide)]; exact h06) hk aR hl1.1 hl hc (by omega) (fun e e1 e2 => by rw [far _ hR4]; exact hS e e1 e2) (fun b b1 b2 => by rw [far _ hF4]; exact hl1.2 b b1 b2) (bfk_in hok hl.1 hl.2.1 (by omega) j hj) ht) (fun _ ν2 h2 => gv_let (hrec _ _ ⟨j + 1, by omega, by omega, hf.trans h2.1, h2.2⟩ hz))
/-- a row as it must be -/
def rowV (T : gT) (ν : gN) (p : bP) (c : Int) : Prop := arr T (ν 40 c) 861 ∧ ∀ a b : Int, 0 ≤ a → a ≤ b → b ≤ bTop p → ν (ν 40 c) (spn a b) = bcl (bv p a b c)
theorem bcl_zero : bcl 0 = 0 := rfl
theorem s_X0_fillRow {p : bP} {c fh : Int} (hp : eqC ν p) (hok : okP p) (h06 : 0 ≤ ν (-3906) 0 ∧ ν (-3906) 0 ≤ 1) (hc : 0 ≤ c ∧ c < 125) (hfh : 0 ≤ fh ∧ fh ≤ bTop p) (aR : arr T (ν 40 c) 861) (hF : ∀ k : Int, isK k → 0 < pcs c k → rowV T ν p (c - un k) ∧ ν 40 (c - un k) ≠ ν 40 c) :
    gv (g_X0_fillRow c fh) T ν (fun _ ν' => gfr [-3915, -3916, -3917, ν 40 c] ν ν' ∧ (∀ a b : Int, 0 ≤ a → a ≤ b → fh ≤ b → b ≤ bTop p → ν' (ν 40 c) (spn a b) = bcl (bv p a b c)) ∧ ∀ a b : Int, 0 ≤ a → a ≤ b → b < fh → ν' (ν 40 c) (spn a b) = ν (ν 40 c) (spn a b)) := by
  have htop := hok.1
  have hR4 := aR.2.1
  have e05 : ν (-3905) 0 = bTop p := hp.2.1
  generalize hR : ν 40 c = R at *
  have mem : ∀ b : Int, b < 0 ∨ b ≤ 104 → b ∉ ([-3915, -3916, -3917] : List Int) → b ∉ ([-3915, -3916, -3917, R] : List Int) := fun b hb hn => by
    simp only [List.mem_cons, List.not_mem_nil, or_false, not_or] at hn ⊢
    omega
  unfold g_X0_fillRow
  refine gv_al ⟨by omega, by omega⟩ ?_
  rw [hR]
  refine gv_it (fun _ => ?_) (fun h => absurd (by omega) h)
  unfold g_X0_fillRow_15
  refine gv_fx (fun (h : Int) τ => (fh ≤ h ∧ h ≤ bTop p + 1) ∧ gfr [-3915, -3916, -3917, R] ν τ ∧ (∀ a b : Int, 0 ≤ a → a ≤ b → fh ≤ b → b < h → τ R (spn a b) = bcl (bv p a b c)) ∧ ∀ a b : Int, 0 ≤ a → a ≤ b → b < fh → τ R (spn a b) = ν R (spn a b)) (fun h _ => (50 - h).toNat) ⟨by omega, gfr.refl _ _, fun a b h1 h2 h3 h4 => by omega, fun a b _ _ _ => rfl⟩ (by omega) ?_
  intro rec h τ hI hrec
  obtain ⟨hh, hf, iV, iO⟩ := hI
  unfold gB_X0_fillRow_15
  refine gv_get ?_
  rw [hf (-3905) (mem _ (by omega) (by decide)), e05]
  refine gv_cb ⟨⟨by omega, by omega⟩, ⟨by omega, by omega⟩⟩ (fun c1 => gv_ret ⟨hf, fun a b h1 h2 h3 h4 => iV a b h1 h2 h3 (by omega), iO⟩) (fun c1 => gv_rd (d_X11_spanAt ⟨by omega, by omega⟩) (gv_asa aR (by have := spn_in (a := h) (b := h) (by omega); omega) (gv_let ?_)))
  unfold g_X0_fillRow_40
  refine gv_fx (fun (l : Int) τ' => (-1 ≤ l ∧ l ≤ h - 1) ∧ gfr [-3915, -3916, -3917, R] ν τ' ∧ (∀ a b : Int, 0 ≤ a → a ≤ b → fh ≤ b → b < h → τ' R (spn a b) = bcl (bv p a b c)) ∧ (∀ a : Int, l < a → a ≤ h → τ' R (spn a h) = bcl (bv p a h c)) ∧ ∀ a b : Int, 0 ≤ a → a ≤ b → b < fh → τ' R (spn a b) = ν R (spn a b)) (fun l _ => (l + 1).toNat) ⟨by omega, hf.up (by simp), fun a b h1 h2 h3 h4 => ?_, fun a h1 h2 => ?_, fun a b h1 h2 h3 => ?_⟩ (by omega) ?_
  · rw [gup_same, if_neg (fun e => by have := (spn_inj (by omega) (by omega) e).2; omega)]; exact iV a b h1 h2 h3 h4
  · rw [gup_same, if_pos (by rw [show a = h by omega]), bv_known p c (by omega), bcl_zero]
  · rw [gup_same, if_neg (fun e => by have := (spn_inj (by omega) (by omega) e).2; omega)]; exact iO a b h1 h2 h3
  · intro rec2 l τ' hI2 hrec2
    obtain ⟨hl, hf', jV, jH, jO⟩ := hI2
    have eR : ∀ b ∈ aBp, τ' b = ν b := fun b hb => hf' b (mem b (by revert b; decide) (by revert b; decide))
    have e40 : τ' 40 = ν 40 := hf' 40 (mem _ (by omega) (by decide))
    unfold gB_X0_fillRow_40
    refine gv_cz ⟨by omega, by omega⟩ (fun c2 => gv_let (hrec _ _ ⟨by omega, hf', fun a b h1 h2 h3 h4 => ?_, jO⟩ (by omega))) (fun c2 => gv_rd (d_X11_spanAt ⟨by omega, by omega⟩) ?_)
    · by_cases e : b = h
      · rw [e]; exact jH a (by omega) (by omega)
      · exact jV a b h1 h2 h3 (by omega)
    · have hless : lessR T τ' p c l h := by
        intro k hk hpk
        obtain ⟨⟨r1, r2⟩, r3⟩ := hF k hk hpk
        have r4 := r1.2.1
        rw [e40]
        refine ⟨r1, fun b b1 b2 => ?_⟩
        rw [hf' _ (by simp only [List.mem_cons, List.not_mem_nil, or_false]; omega)]
        exact r2 l b (by omega) b1 (by omega)
      refine gv_call (s_X0_pick (p := p) (c := c) (low := l) (high := h) (eqC_fr eR hp) hok (by rw [eR (-3906) (by decide)]; exact h06) hc ⟨by omega, by omega⟩ (by rw [e40, hR]; exact aR) (by rw [e40, hR]; exact fun e e1 e2 => jH e e1 e2) hless) (fun r ν2 h2 => ?_)
      obtain ⟨q1, q2, -⟩ := h2
      have eRR : ν2 R = τ' R := q2 R (by simp only [List.mem_cons, List.not_mem_nil, or_false]; omega)
      refine gv_asa aR (by have := spn_in (a := l) (b := h) (by omega); omega) (gv_let (hrec2 _ _ ⟨by omega, (hf'.trans (q2.mono (by simp only [List.mem_cons, List.not_mem_nil, or_false]; intro b hb; omega))).up (by simp), fun a b h1 h2 h3 h4 => ?_, fun a h1 h2 => ?_, fun a b h1 h2 h3 => ?_⟩ (by omega)))
      · rw [gup_same, if_neg (fun e => by have := (spn_inj (by omega) (by omega) e).2; omega), eRR]; exact jV a b h1 h2 h3 h4
      · rw [gup_same]
        by_cases e : a = l
        · rw [if_pos (by rw [e]), e, q1]
        · rw [if_neg (fun e2 => e (spn_inj (by omega) (by omega) e2).1), eRR]; exact jH a (by omega) h2
      · rw [gup_same, if_neg (fun e => by have := (spn_inj (by omega) (by omega) e).2; omega), eRR]; exact jO a b h1 h2 h3
end
