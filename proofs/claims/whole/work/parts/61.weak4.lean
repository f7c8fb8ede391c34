/-! WEAK: the table filled -/
section
variable {T : gT} {ν : gN}
theorem wkR.fr {F G H top d w : Int} {τ : gN} (h : wkR T ν F G H top d w) (hf : gfr [G, H] ν τ) : wkR T τ F G H top d w := by
  have hG := h.2.2.2.2.2.2.2.1.2.1
  have hH := h.2.2.2.2.2.2.2.2.1.2.1
  have e : ∀ b : Int, b < 0 → τ b = ν b := fun b hb => hf b (by simp only [List.mem_cons, List.not_mem_nil, or_false]; omega)
  unfold wkR
  rw [e (-4600) (by decide), e (-4601) (by decide), e (-4602) (by decide), e (-4603) (by decide), e (-4604) (by decide), e (-4605) (by decide)]
  exact h
theorem s_X10_fillHigh {F G H top d w high : Int} {n : Nat} (hR : wkR T ν F G H top d w) (hW : wkW top d w) (hh : 0 ≤ high ∧ high ≤ top) (hF : ∀ a b : Int, 0 ≤ a → a ≤ b → b ≤ top → ν F (spn a b) = wcl (wk top d w n a b 0)) : gv (g_X10_fillHigh high) T ν (fun _ ν' => gfr [G, H] ν ν' ∧ (∀ a : Int, 0 ≤ a → a ≤ high → ν' G (spn a high) = wcl (wk top d w (n + 1) a high 0)) ∧ ∀ a b : Int, 0 ≤ a → a ≤ b → b < high → ν' G (spn a b) = ν G (spn a b)) := by
  obtain ⟨w1, w2, w3⟩ := hW
  have hFG := hR.2.2.2.2.2.2.2.2.2.1
  have hFH := hR.2.2.2.2.2.2.2.2.2.2.1
  have hGH := hR.2.2.2.2.2.2.2.2.2.2.2
  have aG := hR.2.2.2.2.2.2.2.1
  have aH := hR.2.2.2.2.2.2.2.2.1
  have mF : F ∉ [G, H] := by simp only [List.mem_cons, List.not_mem_nil, or_false]; omega
  unfold g_X10_fillHigh g_X10_fillHigh_2
  refine gv_fx (fun (low : Int) τ => (-1 ≤ low ∧ low ≤ high) ∧ gfr [G, H] ν τ ∧ (∀ t j : Int, low < t → t ≤ high → 0 ≤ j → j ≤ t → τ H (t * 41 + j) = wcl (wk top d w (n + 1) t high j)) ∧ (∀ a : Int, low < a → a ≤ high → τ G (spn a high) = wcl (wk top d w (n + 1) a high 0)) ∧ ∀ a b : Int, 0 ≤ a → a ≤ b → b < high → τ G (spn a b) = ν G (spn a b)) (fun low _ => (low + 1).toNat) ⟨by omega, gfr.refl _ _, fun t j h1 h2 => by omega, fun a h1 h2 => by omega, fun a b _ _ _ => rfl⟩ (by omega) ?_
  intro rec low τ hI hrec
  obtain ⟨hl, hf, iH, iG, iO⟩ := hI
  unfold gB_X10_fillHigh_2
  refine gv_cz ⟨by omega, by omega⟩ (fun c => gv_ret ⟨hf, fun a h1 h2 => iG a (by omega) h2, iO⟩) (fun c => ?_)
  unfold g_X10_fillHigh_8
  refine gv_fx (fun (x : Int) τ' => (0 ≤ x ∧ x ≤ low + 1) ∧ gfr [G, H] ν τ' ∧ (∀ t j : Int, low < t → t ≤ high → 0 ≤ j → j ≤ t → τ' H (t * 41 + j) = wcl (wk top d w (n + 1) t high j)) ∧ (∀ j : Int, 0 ≤ j → j < x → τ' H (low * 41 + j) = wcl (wk top d w (n + 1) low high j)) ∧ τ' G = τ G) (fun x _ => (50 - x).toNat) ⟨by omega, hf, iH, fun j h1 h2 => by omega, rfl⟩ (by omega) ?_
  intro rec2 x τ' hI2 hrec2
  obtain ⟨hx, hf', iH', iJ, eG⟩ := hI2
  have hR' := hR.fr hf'
  have hF' : ∀ a b : Int, 0 ≤ a → a ≤ b → b ≤ top → τ' F (spn a b) = wcl (wk top d w n a b 0) := fun a b h1 h2 h3 => by rw [hf' F mF]; exact hF a b h1 h2 h3
  unfold gB_X10_fillHigh_8
  refine gv_cb ⟨⟨by omega, by omega⟩, ⟨by omega, by omega⟩⟩ (fun c2 => gv_get (gv_rd (d_X11_spanAt ⟨by omega, by omega⟩) (gv_get ?_))) (fun c2 => gv_get (gv_rd (d_X10_fewestFrom hR' ⟨w1, w2, w3⟩ ⟨by omega, by omega⟩ ⟨by omega, by omega⟩ hF' (fun t j h1 h2 h3 h4 => iH' t j h1 h2 h3 h4)) ?_))
  · rw [hR'.2.2.1, hR'.2.1]
    refine gv_ala aH ⟨by omega, by omega⟩ (gv_asa aG (by have := spn_in (a := low) (b := high) (by omega); omega) (gv_let (hrec _ _ ⟨by omega, hf'.up (by simp), fun t j h1 h2 h3 h4 => ?_, fun a h1 h2 => ?_, fun a b h1 h2 h3 => ?_⟩ (by omega))))
    · rw [gup_ne (fun h => hGH h.symm)]
      by_cases e : t = low
      · rw [e]; exact iJ j h3 (by omega)
      · exact iH' t j (by omega) h2 h3 h4
    · rw [gup_same]
      by_cases e : a = low
      · rw [if_pos (by rw [e]), e]
        have := iJ 0 (by omega) (by omega)
        rw [Int.add_zero] at this
        exact this
      · rw [if_neg (fun h => e (spn_inj (by omega) (by omega) h).1), eG]
        exact iG a (by omega) h2
    · rw [gup_same, if_neg (fun h => by have := (spn_inj (by omega) (by omega) h).2; omega), eG]
      exact iO a b h1 h2 h3
  · rw [hR'.2.2.1]
    refine gv_asa aH ⟨by omega, by omega⟩ (gv_let (hrec2 _ _ ⟨by omega, hf'.up (by simp), fun t j h1 h2 h3 h4 => ?_, fun j h1 h2 => ?_, by rw [gup_ne hGH]; exact eG⟩ (by omega)))
    · rw [gup_same, if_neg (fun h => by
        have := (base_inj (B := 41) (X := t) (X' := low) (r := j) (r' := x) (by decide) (by omega) (by omega) (by omega)).1
        omega)]
      exact iH' t j h1 h2 h3 h4
    · rw [gup_same]
      by_cases e : j = x
      · rw [if_pos (by rw [e]), e]
      · rw [if_neg (by omega)]; exact iJ j h1 (by omega)
theorem s_J7_fill_od {o v : Int} {len : Nat} (ho : arr T o len) (hlen : len ≤ 2000) : gv (g_J7_fill_od o v) T ν (fun _ ν' => gfr [o] ν ν' ∧ ∀ k : Int, 0 ≤ k → k < len → ν' o k = v) := by
  unfold g_J7_fill_od g_J7_fill_5_od
  refine gv_and ho.1 ?_
  rw [ho.2.2]
  refine gv_fx (fun (x : Int) τ => ∃ j : Nat, x = j ∧ j ≤ len ∧ gfr [o] ν τ ∧ ∀ k : Int, 0 ≤ k → k < j → τ o k = v) (fun x _ => len - x.toNat) ⟨0, rfl, by omega, gfr.refl _ _, fun k h1 h2 => by omega⟩ (by omega) ?_
  intro rec x τ hI hrec
  obtain ⟨j, rfl, hj, hf, hz⟩ := hI
  unfold gB_J7_fill_5_od
  refine gv_cb ⟨⟨by omega, by omega⟩, ⟨by omega, by omega⟩⟩ (fun hc => gv_ret ⟨hf, fun k h1 h2 => hz k h1 (by omega)⟩) (fun hc => ?_)
  refine gv_asa ho ⟨by omega, by omega⟩ (gv_let ?_)
  refine hrec _ _ ⟨j + 1, by omega, by omega, hf.up (by simp), fun k h1 h2 => ?_⟩ (by omega)
  rw [gup_same]
  by_cases e : k = j
  · rw [if_pos e]
  · rw [if_neg e]; exact hz k h1 (by omega)
theorem s_X10_fillWithoutPieces {F G H top d w : Int} (hR : wkR T ν F G H top d w) (hW : wkW top d w) : gv g_X10_fillWithoutPieces T ν (fun _ ν' => gfr [F] ν ν' ∧ ∀ a b : Int, 0 ≤ a → a ≤ b → b ≤ top → ν' F (spn a b) = wcl (wk top d w 0 a b 0)) := by
  obtain ⟨w1, w2, w3⟩ := hW
  obtain ⟨r1, r2, r3, r4, r5, r6, aF, aG, aH, -, -, -⟩ := hR
  have hF0 := aF.2.1
  unfold g_X10_fillWithoutPieces
  refine gv_get ?_
  rw [r1]
  refine gv_call (s_J7_fill_od aF (by omega)) (fun _ ν1 h1 => ?_)
  unfold g_X10_fillWithoutPieces_11
  refine gv_fx (fun (x : Int) τ => (0 ≤ x ∧ x ≤ top + 1) ∧ gfr [F] ν τ ∧ ∀ a b : Int, 0 ≤ a → a ≤ b → b ≤ top → τ F (spn a b) = if a = b ∧ b < x then 0 else 1000000000) (fun x _ => (50 - x).toNat) ⟨by omega, h1.1, fun a b a1 a2 a3 => ?_⟩ (by omega) ?_
  · rw [if_neg (by omega)]
    have := spn_in (a := a) (b := b) (by omega)
    exact h1.2 _ this.1 (by omega)
  intro rec x τ hI hrec
  obtain ⟨hx, hf, iT⟩ := hI
  have e : ∀ b : Int, b < 0 → τ b = ν b := fun b hb => hf b (by simp only [List.mem_cons, List.not_mem_nil, or_false]; omega)
  unfold gB_X10_fillWithoutPieces_11
  refine gv_get ?_
  rw [e (-4603) (by decide), r4]
  refine gv_cb ⟨⟨by omega, by omega⟩, ⟨by omega, by omega⟩⟩ (fun c => gv_ret ⟨hf, fun a b a1 a2 a3 => ?_⟩) (fun c => gv_get (gv_rd (d_X11_spanAt ⟨by omega, by omega⟩) ?_))
  · rw [iT a b a1 a2 a3]
    by_cases e2 : a = b
    · rw [if_pos (by omega), wk_eq _ _ _ _ _ (by omega)]; rfl
    · rw [if_neg (by omega), wk_zero _ _ _ _ (by omega)]; rfl
  · rw [e (-4600) (by decide), r1]
    refine gv_asa aF (by have := spn_in (a := x) (b := x) (by omega); omega) (gv_let (hrec _ _ ⟨by omega, hf.up (by simp), fun a b a1 a2 a3 => ?_⟩ (by omega)))
    rw [gup_same]
    by_cases e2 : a = x ∧ b = x
    · rw [if_pos (by rw [e2.1, e2.2]), if_pos (by omega)]
    · rw [if_neg (fun h => e2 (spn_inj (by omega) (by omega) h)), iT a b a1 a2 a3]
      by_cases c3 : a = b ∧ b < x
      · rw [if_pos c3, if_pos (by omega)]
      · rw [if_neg c3, if_neg (by omega)]
/-- the loops over the pieces -/
theorem s_X10_fewestFalls_34 {F G H top d w : Int} {n : Nat} (hn : 1 ≤ n ∧ n ≤ 4) (hR : wkR T ν F G H top d w) (hW : wkW top d w) (hF : ∀ a b : Int, 0 ≤ a → a ≤ b → b ≤ top → ν F (spn a b) = wcl (wk top d w 0 a b 0)) : gv (g_X10_fewestFalls_34 n 1) T ν (fun r ν' => r = wkA (wk top d w n 0 top 0) ∧ gfr [-4600, -4601, F, G, H] ν ν' ∧ ∃ F' G', wkR T ν' F' G' H top d w ∧ ((F' = F ∧ G' = G) ∨ (F' = G ∧ G' = F))) := by
  unfold g_X10_fewestFalls_34
  refine gv_fx (fun (x : Int) τ => ∃ p : Nat, x = ((p + 1 : Nat) : Int) ∧ p ≤ n ∧ gfr [-4600, -4601, F, G, H] ν τ ∧ ∃ F' G', wkR T τ F' G' H top d w ∧ ((F' = F ∧ G' = G) ∨ (F' = G ∧ G' = F)) ∧ ∀ a b : Int, 0 ≤ a → a ≤ b → b ≤ top → τ F' (spn a b) = wcl (wk top d w p a b 0)) (fun x _ => (10 - x).toNat) ⟨0, rfl, by omega, gfr.refl _ _, F, G, hR, Or.inl ⟨rfl, rfl⟩, hF⟩ (by omega) ?_
  intro rec x τ hI hrec
  obtain ⟨p, rfl, hp, hf, F', G', hR', hFG, hT⟩ := hI
  have hw1 := hW.1
  unfold gB_X10_fewestFalls_34
  refine gv_cb ⟨⟨by omega, by omega⟩, ⟨by omega, by omega⟩⟩ (fun c => gv_get (gv_get ?_)) (fun c => ?_)
  · rw [hR'.1, hR'.2.2.2.1]
    refine gv_rd (d_X11_spanAt ⟨by omega, by omega⟩) (gv_ala hR'.2.2.2.2.2.2.1 (by have := spn_in (a := 0) (b := top) (by omega); omega) ?_)
    rw [hT 0 top (by omega) (by omega) (by omega), show p = n by omega]
    have hin := wk_in top d w n _ 0 top 0 rfl (by omega)
    have hcl : 0 ≤ wcl (wk top d w n 0 top 0) ∧ wcl (wk top d w n 0 top 0) ≤ 1000000000 := by unfold wcl; split <;> omega
    refine gv_ck ⟨⟨by omega, by omega⟩, ⟨by omega, by omega⟩⟩ (gv_let (gv_ret ⟨?_, hf, F', G', hR', hFG⟩))
    unfold wcl wkA
    repeat' split
    all_goals omega
  · unfold g_X10_fewestFalls_43
    refine gv_fx (fun (x : Int) τ' => (0 ≤ x ∧ x ≤ top + 1) ∧ gfr [-4600, -4601, F, G, H] ν τ' ∧ wkR T τ' F' G' H top d w ∧ τ' F' = τ F' ∧ ∀ a b : Int, 0 ≤ a → a ≤ b → b < x → τ' G' (spn a b) = wcl (wk top d w (p + 1) a b 0)) (fun x _ => (50 - x).toNat) ⟨by omega, hf, hR', rfl, fun a b h1 h2 h3 => by omega⟩ (by omega) ?_
    intro rec2 x τ' hI2 hrec2
    obtain ⟨hx, hf2, hR2, eF, hG⟩ := hI2
    have nFG := hR2.2.2.2.2.2.2.2.2.2.1
    have nFH := hR2.2.2.2.2.2.2.2.2.2.2.1
    unfold gB_X10_fewestFalls_43
    refine gv_get ?_
    rw [hR2.2.2.2.1]
    refine gv_cb ⟨⟨by omega, by omega⟩, ⟨by omega, by omega⟩⟩ (fun c2 => gv_get (gv_get (gv_put (gv_put (gv_let (hrec _ _ ⟨p + 1, by omega, by omega, (hf2.up (by simp)).up (by simp), G', F', ?_, by omega, ?_⟩ (by omega))))))) (fun c2 => ?_)
    · rw [hR2.1, hR2.2.1]
      obtain ⟨r1, r2, r3, r4, r5, r6, a1, a2, a3, n1, n2, n3⟩ := hR2
      refine ⟨?_, ?_, ?_, ?_, ?_, ?_, a2, a1, a3, fun h => n1 h.symm, n3, n2⟩
      · simp (disch := decide) only [gup_ne, gup_at]
      · simp (disch := decide) only [gup_ne, gup_at]
      · simp (disch := decide) only [gup_ne]; exact r3
      · simp (disch := decide) only [gup_ne]; exact r4
      · simp (disch := decide) only [gup_ne]; exact r5
      · simp (disch := decide) only [gup_ne]; exact r6
    · have g1 := hR2.2.2.2.2.2.2.2.1.2.1
      intro a b h1 h2 h3
      rw [gup_ne (by omega), gup_ne (by omega)]
      exact hG a b h1 h2 (by omega)
    · refine gv_call (s_X10_fillHigh hR2 hW ⟨by omega, by omega⟩ (by rw [eF]; exact hT)) (fun _ ν2 h2 => gv_let (hrec2 _ _ ⟨by omega, ?_, hR2.fr h2.1, ?_, ?_⟩ (by omega)))
      · refine hf2.trans (h2.1.mono ?_)
        simp only [List.mem_cons, List.not_mem_nil, or_false]
        intro b hb
        omega
      · rw [h2.1 F' (by simp only [List.mem_cons, List.not_mem_nil, or_false]; omega)]; exact eF
      · intro a b h1 h3 h4
        by_cases e : b = x
        · rw [e]; exact h2.2.1 a h1 (by omega)
        · rw [h2.2.2 a b h1 h3 (by omega)]; exact hG a b h1 h3 (by omega)
end
/-- the layout of the first cells -/
def gL (T : gT) : Prop := 104 ≤ T.1 ∧ ∀ a : Nat, 1 ≤ a → a ≤ 104 → T.2 a = hl_lay a
/-- more cells, the old ones as they were -/
def gext (T T' : gT) : Prop := T.1 ≤ T'.1 ∧ ∀ a : Nat, a ≤ T.1 → T'.2 a = T.2 a
theorem gext.refl (T : gT) : gext T T := ⟨Nat.le_refl _, fun _ _ => rfl⟩
theorem gext.trans {T T1 T2 : gT} (h : gext T T1) (h' : gext T1 T2) : gext T T2 := ⟨Nat.le_trans h.1 h'.1, fun a ha => (h'.2 a (Nat.le_trans ha h.1)).trans (h.2 a ha)⟩
theorem gext.new (T : gT) (tg len : Nat) : gext T (gnT T tg len) := ⟨Nat.le_succ _, fun a ha => by show (if a = T.1 + 1 then (tg, len) else T.2 a) = T.2 a; rw [if_neg (by omega)]⟩
theorem gext.arr {T T' : gT} (h : gext T T') {o : Int} {len : Nat} (ha : arr T o len) : arr T' o len := by
  have e := h.2 o.toNat ha.1.2.1
  exact ⟨⟨ha.1.1, Nat.le_trans ha.1.2.1 h.1, by rw [e]; exact ha.1.2.2⟩, ha.2.1, by rw [e]; exact ha.2.2⟩
theorem gext.lay {T T' : gT} (h : gext T T') (hL : gL T) : gL T' := ⟨Nat.le_trans hL.1 h.1, fun a h1 h2 => (h.2 a (Nat.le_trans h2 hL.1)).trans (hL.2 a h1 h2)⟩
/-- the weak table's rows: not yet made, or three of their own -/
def iWk (T : gT) (ν : gN) : Prop := (ν (-4600) 0 = 47 ∧ ν (-4601) 0 ≤ 104 ∧ ν (-4602) 0 ≤ 104) ∨ ∃ F G H, ν (-4600) 0 = F ∧ ν (-4601) 0 = G ∧ ν (-4602) 0 = H ∧ arr T F 861 ∧ arr T G 861 ∧ arr T H 1681 ∧ F ≠ G ∧ F ≠ H ∧ G ≠ H
def wkc3 (ν : gN) : Nat := if ν (-4600) 0 = 47 then 3 else 0
def wks3 (ν : gN) : Nat := if ν (-4600) 0 = 47 then 3403 else 0
/-- whose rows they are -/
def wkO (ν : gN) (b : Int) : Prop := b = ν (-4600) 0 ∨ b = ν (-4601) 0 ∨ b = ν (-4602) 0
section
variable {T : gT} {ν : gN}
theorem s_X10_makeRoom (hL : gL T) (h : iWk T ν) (hc : T.1 + wkc3 ν ≤ hf_cc) (hs : gsl T + wks3 ν ≤ hf_cs) : gw g_X10_makeRoom T ν (fun _ T' ν' => gext T T' ∧ (∃ F G H, ν' (-4600) 0 = F ∧ ν' (-4601) 0 = G ∧ ν' (-4602) 0 = H ∧ arr T' F 861 ∧ arr T' G 861 ∧ arr T' H 1681 ∧ F ≠ G ∧ F ≠ H ∧ G ≠ H) ∧ T'.1 + wkc3 ν' ≤ T.1 + wkc3 ν ∧ gsl T' + wks3 ν' ≤ gsl T + wks3 ν ∧ (∀ b : Int, b ≤ T.1 → b ∉ [-4600, -4601, -4602] → ν' b = ν b) ∧ (∀ b : Int, wkO ν' b → wkO ν b ∨ (T.1 : Int) < b)) := by
  unfold g_X10_makeRoom
  refine gw_get ?_
  have h104 := hL.1
  rcases h with ⟨h, _, _⟩ | ⟨F, G, H, r1, r2, r3, aF, aG, aH, n1, n2, n3⟩
  · have e3 : wkc3 ν = 3 := if_pos h
    have es : wks3 ν = 3403 := if_pos h
    rw [h]
    refine gw_and ⟨by decide, by show (47 : Nat) ≤ T.1; omega, by rw [hL.2 _ (by decide) (by decide)]; rfl⟩ ?_
    rw [show (T.2 (47 : Int).toNat).2 = 0 by rw [hL.2 _ (by decide) (by decide)]; rfl]
    refine gw_cz (by decide) (fun h => absurd rfl h) (fun _ => ?_)
    refine gw_na (by decide) (by omega) (by show gsl T + 861 ≤ hf_cs; omega) (gw_put ?_)
    have g1 := gsl_new T 20 861
    refine gw_na (by decide) (by show T.1 + 1 + 1 ≤ hf_cc; omega) (by show gsl (gnT T 20 861) + 861 ≤ hf_cs; omega) (gw_put ?_)
    have g2 := gsl_new (gnT T 20 861) 20 861
    refine gw_na (by decide) (by show T.1 + 1 + 1 + 1 ≤ hf_cc; omega) (by show gsl (gnT (gnT T 20 861) 20 861) + 1681 ≤ hf_cs; omega) (gw_put (gw_ret ?_))
    have g3 := gsl_new (gnT (gnT T 20 861) 20 861) 20 1681
    have x1 : ((gnT T 20 ((861 : Int).toNat)).1 + 1 : Nat) = T.1 + 2 := rfl
    have x2 : ((gnT (gnT T 20 ((861 : Int).toNat)) 20 ((861 : Int).toNat)).1 + 1 : Nat) = T.1 + 3 := rfl
    rw [x1, x2]
    have y1 : ∀ b : Int, b ≤ T.1 → b ∉ [-4600, -4601, -4602] → gup (gnN (gnT (gnT T 20 ((861 : Int).toNat)) 20 ((861 : Int).toNat)) (gup (gnN (gnT T 20 ((861 : Int).toNat)) (gup (gnN T ν) (-4600) 0 ((T.1 + 1 : Nat) : Int))) (-4601) 0 ((T.1 + 2 : Nat) : Int))) (-4602) 0 ((T.1 + 3 : Nat) : Int) b = ν b := fun b hb hn => by
      simp only [List.mem_cons, List.not_mem_nil, or_false, not_or] at hn
      rw [gup_ne hn.2.2]
      funext j
      unfold gnN
      rw [x2, x1, if_neg (by omega), gup_ne hn.2.1, if_neg (by omega), gup_ne hn.1, if_neg (by omega)]
    have z1 : gup (gnN (gnT (gnT T 20 ((861 : Int).toNat)) 20 ((861 : Int).toNat)) (gup (gnN (gnT T 20 ((861 : Int).toNat)) (gup (gnN T ν) (-4600) 0 ((T.1 + 1 : Nat) : Int))) (-4601) 0 ((T.1 + 2 : Nat) : Int))) (-4602) 0 ((T.1 + 3 : Nat) : Int) (-4600) 0 = ((T.1 + 1 : Nat) : Int) := by
      rw [gup_ne (by decide)]
      unfold gnN
      rw [x2, x1, if_neg (by omega), gup_ne (by decide), if_neg (by omega), gup_at]
    have z2 : gup (gnN (gnT (gnT T 20 ((861 : Int).toNat)) 20 ((861 : Int).toNat)) (gup (gnN (gnT T 20 ((861 : Int).toNat)) (gup (gnN T ν) (-4600) 0 ((T.1 + 1 : Nat) : Int))) (-4601) 0 ((T.1 + 2 : Nat) : Int))) (-4602) 0 ((T.1 + 3 : Nat) : Int) (-4601) 0 = ((T.1 + 2 : Nat) : Int) := by
      rw [gup_ne (by decide)]
      unfold gnN
      rw [x2, if_neg (by omega), gup_at]
    have z3 : gup (gnN (gnT (gnT T 20 ((861 : Int).toNat)) 20 ((861 : Int).toNat)) (gup (gnN (gnT T 20 ((861 : Int).toNat)) (gup (gnN T ν) (-4600) 0 ((T.1 + 1 : Nat) : Int))) (-4601) 0 ((T.1 + 2 : Nat) : Int))) (-4602) 0 ((T.1 + 3 : Nat) : Int) (-4602) 0 = ((T.1 + 3 : Nat) : Int) := gup_at _ _ _ _
    refine ⟨((gext.new T 20 861).trans (gext.new _ 20 861)).trans (gext.new _ 20 1681), ⟨((T.1 + 1 : Nat) : Int), ((T.1 + 2 : Nat) : Int), ((T.1 + 3 : Nat) : Int), z1, z2, z3, ?_, ?_, ?_, by omega, by omega, by omega⟩, ?_, ?_, y1, fun b hb => ?_⟩
    · exact arr_new (arr_new (arr_made 861 h104))
    · exact arr_new (arr_made (T := gnT T 20 861) 861 (by show 104 ≤ T.1 + 1; omega))
    · exact arr_made (T := gnT (gnT T 20 861) 20 861) 1681 (by show 104 ≤ T.1 + 2; omega)
    · unfold wkc3
      rw [z1, if_neg (by omega), if_pos h]
      show T.1 + 1 + 1 + 1 + 0 ≤ T.1 + 3
      omega
    · unfold wks3
      rw [z1, if_neg (by omega), if_pos h]
      show gsl (gnT (gnT (gnT T 20 861) 20 861) 20 1681) + 0 ≤ gsl T + 3403
      omega
    · unfold wkO at hb
      rw [z1, z2, z3] at hb
      right; omega
  · have e3 : wkc3 ν = 0 := if_neg (by rw [r1]; have := aF.2.1; omega)
    have es : wks3 ν = 0 := if_neg (by rw [r1]; have := aF.2.1; omega)
    rw [r1]
    refine gw_and aF.1 ?_
    rw [aF.2.2]
    refine gw_cz (by decide) (fun _ => gw_ret ⟨gext.refl _, ⟨F, G, H, r1, r2, r3, aF, aG, aH, n1, n2, n3⟩, by omega, by omega, fun b _ _ => rfl, fun b hb => Or.inl hb⟩) (fun h => absurd (by decide) h)
theorem s_X11_weak {n w : Int} (hL : gL T) (h : iWk T ν) (hc : T.1 + wkc3 ν ≤ hf_cc) (hs : gsl T + wks3 ν ≤ hf_cs) (hn : -2147483648 ≤ n ∧ n ≤ 2147483647) (hw : -2147483648 ≤ w ∧ w ≤ 2147483647) (ht : 1 ≤ ν (-200) 0 ∧ ν (-200) 0 ≤ 40) (hd : -9 ≤ ν 3 0 ∧ ν 3 0 ≤ 9) : gw (g_X11_weak n w) T ν (fun r T' ν' => r = (if (1 ≤ n ∧ n ≤ 4) ∧ (0 ≤ w ∧ w ≤ 3) then wkA (wk (ν (-200) 0) (ν 3 0) w n.toNat 0 (ν (-200) 0) 0) else -1) ∧ gext T T' ∧ iWk T' ν' ∧ T'.1 + wkc3 ν' ≤ T.1 + wkc3 ν ∧ gsl T' + wks3 ν' ≤ gsl T + wks3 ν ∧ (∀ b : Int, b ≤ T.1 → b ∉ [-4600, -4601, -4602, -4603, -4604, -4605] → ¬ (104 < b ∧ wkO ν b) → ν' b = ν b) ∧ (∀ b : Int, wkO ν' b → wkO ν b ∨ (T.1 : Int) < b)) := by
  have hno : ∀ r : Int, r = -1 → ¬ ((1 ≤ n ∧ n ≤ 4) ∧ (0 ≤ w ∧ w ≤ 3)) → gw (gret r) T ν (fun r T' ν' => r = (if (1 ≤ n ∧ n ≤ 4) ∧ (0 ≤ w ∧ w ≤ 3) then wkA (wk (ν (-200) 0) (ν 3 0) w n.toNat 0 (ν (-200) 0) 0) else -1) ∧ gext T T' ∧ iWk T' ν' ∧ T'.1 + wkc3 ν' ≤ T.1 + wkc3 ν ∧ gsl T' + wks3 ν' ≤ gsl T + wks3 ν ∧ (∀ b : Int, b ≤ T.1 → b ∉ [-4600, -4601, -4602, -4603, -4604, -4605] → ¬ (104 < b ∧ wkO ν b) → ν' b = ν b) ∧ (∀ b : Int, wkO ν' b → wkO ν b ∨ (T.1 : Int) < b)) := fun r hr hcc => by
    refine gw_ret ⟨?_, gext.refl _, h, Nat.le_refl _, Nat.le_refl _, fun b _ _ _ => rfl, fun b hb => Or.inl hb⟩
    rw [if_neg hcc]; exact hr
  unfold g_X11_weak
  refine gw_cb ⟨hn, by decide⟩ (fun c => hno _ rfl (by omega)) (fun c1 => gw_cb ⟨hn, by decide⟩ (fun c => hno _ rfl (by omega)) (fun c2 => gw_rd (d_X11_isWithin hw (by decide)) ?_))
  by_cases c3 : 0 ≤ w ∧ w ≤ 3
  · rw [if_pos c3]
    refine gw_cz (by decide) (fun _ => ?_) (fun h => absurd (by decide) h)
    simp only [if_pos (show (1 ≤ n ∧ n ≤ 4) ∧ (0 ≤ w ∧ w ≤ 3) by omega)]
    unfold g_X10_fewestFalls
    refine gw_call (m := gbd g_X10_makeRoom _) (Q' := fun r T' ν' => r = wkA (wk (ν (-200) 0) (ν 3 0) w n.toNat 0 (ν (-200) 0) 0) ∧ gext T T' ∧ iWk T' ν' ∧ T'.1 + wkc3 ν' ≤ T.1 + wkc3 ν ∧ gsl T' + wks3 ν' ≤ gsl T + wks3 ν ∧ (∀ b : Int, b ≤ T.1 → b ∉ [-4600, -4601, -4602, -4603, -4604, -4605] → ¬ (104 < b ∧ wkO ν b) → ν' b = ν b) ∧ (∀ b : Int, wkO ν' b → wkO ν b ∨ (T.1 : Int) < b)) ?_ (fun r T' ν' hq => gw_ret hq)
    refine gw_call (s_X10_makeRoom hL h hc hs) (fun _ T1 ν1 h1 => ?_)
    obtain ⟨x1, ⟨F, G, H, r1, r2, r3, aF, aG, aH, n1, n2, n3⟩, x3, x4, x5, x6⟩ := h1
    have h104 := hL.1
    have hF4 := aF.2.1
    have hG4 := aG.2.1
    have hH4 := aH.2.1
    have et : ν1 (-200) = ν (-200) := x5 _ (by omega) (by decide)
    have e3 : ν1 3 = ν 3 := x5 _ (by omega) (by decide)
    refine gv.w (gv_get (gv_put (gv_al (by decide) (gv_put (gv_put ?_)))))
    rw [gup_ne (show (3 : Int) ≠ -4603 by decide), et, e3]
    have hR : wkR T1 (gup (gup (gup ν1 (-4603) 0 (ν (-200) 0)) (-4604) 0 (ν 3 0)) (-4605) 0 w) F G H (ν (-200) 0) (ν 3 0) w := by
      unfold wkR
      simp (disch := decide) only [gup_ne, gup_at]
      exact ⟨r1, r2, r3, by trivial, by trivial, by trivial, aF, aG, aH, n1, n2, n3⟩
    have hW : wkW (ν (-200) 0) (ν 3 0) w := ⟨ht, hd, c3⟩
    refine gv_call (s_X10_fillWithoutPieces hR hW) (fun _ ν2 h2 => ?_)
    have hR2 : wkR T1 ν2 F G H (ν (-200) 0) (ν 3 0) w := by
      have e : ∀ b : Int, b < 0 → ν2 b = _ := fun b hb => h2.1 b (by simp only [List.mem_cons, List.not_mem_nil, or_false]; omega)
      unfold wkR at hR ⊢
      rw [e (-4600) (by decide), e (-4601) (by decide), e (-4602) (by decide), e (-4603) (by decide), e (-4604) (by decide), e (-4605) (by decide)]
      exact hR
    have hlast := s_X10_fewestFalls_34 (T := T1) (ν := ν2) (n := n.toNat) (by omega) hR2 hW h2.2
    rw [show ((n.toNat : Nat) : Int) = n by omega] at hlast
    refine hlast.mono (fun r ν3 h3 => ?_)
    obtain ⟨y1, y2, F', G', hR3, hFG⟩ := h3
    have k1 : ν3 (-4600) 0 = F' := hR3.1
    have k2 : ν3 (-4601) 0 = G' := hR3.2.1
    have k3 : ν3 (-4602) 0 = H := hR3.2.2.1
    have ec3 : wkc3 ν3 = wkc3 ν1 := by
      unfold wkc3
      rw [k1, r1, if_neg (by omega), if_neg (by omega)]
    have es3 : wks3 ν3 = wks3 ν1 := by
      unfold wks3
      rw [k1, r1, if_neg (by omega), if_neg (by omega)]
    have eO : ∀ b : Int, wkO ν3 b ↔ wkO ν1 b := fun b => by
      unfold wkO
      rw [k1, k2, k3, r1, r2, r3]
      omega
    refine ⟨y1, x1, Or.inr ⟨F', G', H, k1, k2, k3, hR3.2.2.2.2.2.2.1, hR3.2.2.2.2.2.2.2.1, aH, hR3.2.2.2.2.2.2.2.2.2.1, hR3.2.2.2.2.2.2.2.2.2.2.1, hR3.2.2.2.2.2.2.2.2.2.2.2⟩, by omega, by omega, fun b hb hn hno => ?_, fun b hb => x6 b ((eO b).mp hb)⟩
    simp only [List.mem_cons, List.not_mem_nil, or_false, not_or] at hn
    have hbO : ¬ (b = F ∨ b = G ∨ b = H) := fun hh => by
      have hO1 : wkO ν1 b := by unfold wkO; rw [r1, r2, r3]; exact hh
      rcases x6 b hO1 with q | q
      · exact hno ⟨by omega, q⟩
      · omega
    rw [y2 b (by simp only [List.mem_cons, List.not_mem_nil, or_false]; omega), h2.1 b (by simp only [List.mem_cons, List.not_mem_nil, or_false]; omega), gup_ne (by omega), gup_ne (by omega), gup_ne (by omega)]
    exact x5 b hb (by simp only [List.mem_cons, List.not_mem_nil, or_false]; omega)
  · rw [if_neg c3]
    exact gw_cz (by decide) (fun h => absurd rfl h) (fun _ => hno _ rfl (by omega))
end
