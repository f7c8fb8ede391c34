/-! BEST: the reference's table -/
section
variable {T : gT} {ν : gN}
theorem pR_fr {τ : gN} (h : ∀ b ∈ ([-6903, -6908, -6909, 71, 73, 74] : List Int), τ b = ν b) (law : Int) : pR τ law = pR ν law := by
  unfold pR
  rw [h (-6903) (by decide), h (-6908) (by decide), h (-6909) (by decide), h 71 (by decide), h 73 (by decide), h 74 (by decide)]
theorem rOK_fr {τ : gN} (h : ∀ b ∈ ([-6903, -6908, -6909, 71, 73, 74] : List Int), τ b = ν b) (hr : rOK ν) : rOK τ := by
  unfold rOK
  rw [h (-6903) (by decide), h (-6908) (by decide), h (-6909) (by decide), h 71 (by decide), h 73 (by decide), h 74 (by decide)]
  exact hr
/-- the rows of shorter spans stand -/
def bsT (ν : gN) (law low high c : Int) : Prop := (∀ e : Int, low < e → e ≤ high → ν 91 (bix e high c) = bv (pR ν law) e high c) ∧ (∀ k e : Int, isK k → 0 < pcs c k → low < e → e ≤ high → ν 91 (bix low (e - 1) (c - un k)) = bv (pR ν law) low (e - 1) (c - un k))
theorem s_X12_bestOf {law low high c : Int} (hR : rOK ν) (hlaw : 0 ≤ law ∧ law ≤ 3) (hl : 0 ≤ low ∧ low ≤ high) (h40 : high ≤ ν (-6903) 0) (hc : 0 ≤ c ∧ c < 125) (hw : ∀ t : Int, 0 ≤ t → t ≤ ν (-6903) 0 + 1 → ν 92 t = gsum (ν 74) t.toNat) (hT : bsT ν law low high c) : gv (g_X12_bestOf law low high c) T ν (fun r ν' => r = (bf (pR ν law) low high c).1 ∧ ν' (-6952) 0 = (bf (pR ν law) low high c).2.1 ∧ ν' (-6953) 0 = (bf (pR ν law) low high c).2.2 ∧ gfr [-6952, -6953] ν ν') := by
  have hok := pR_ok hR law
  have htop := hR.1
  have hloop : ∀ s0 : Int, s0 = (if low = high then 0 else 1000000000000) → gv (g_X12_bestOf_12 law low high c s0) T ν (fun r ν' => r = (bf (pR ν law) low high c).1 ∧ ν' (-6952) 0 = (bf (pR ν law) low high c).2.1 ∧ ν' (-6953) 0 = (bf (pR ν law) low high c).2.2 ∧ gfr [-6952, -6953] ν ν') := by
    intro s0 hs0
    unfold g_X12_bestOf_12 g_X12_bestOf_27
    refine gv_put (gv_put ?_)
    refine gv_fx (fun (s : Int × Int) τ => ∃ j : Nat, s.2 = j ∧ j ≤ 3 ∧ gfr [-6952, -6953] ν τ ∧ s.1 = (bfk (pR ν law) low high c j).1 ∧ τ (-6952) 0 = (bfk (pR ν law) low high c j).2.1 ∧ τ (-6953) 0 = (bfk (pR ν law) low high c j).2.2) (fun s _ => 5 - s.2.toNat) ⟨0, rfl, by omega, ((gfr.refl _ _).up (by decide)).up (by decide), hs0, by rw [gup_ne (by decide), gup_at]; rfl, by rw [gup_at]; rfl⟩ (by show 5 - (0 : Int).toNat < 100000; omega) ?_
    intro rec s τ hI hrec
    obtain ⟨j, e2, hj, hf, e1, f1, f2⟩ := hI
    have eR : ∀ b ∈ ([-6903, -6908, -6909, 71, 73, 74] : List Int), τ b = ν b := hf.eq (by decide)
    have hcapj := bfk_cap (pR ν law) low high c j
    have hge : ∀ i : Nat, i ≤ 3 → 0 ≤ (bfk (pR ν law) low high c i).1 := fun i => by
      induction i with
      | zero => intro _; show 0 ≤ (if low = high then (0 : Int) else 1000000000000); split <;> omega
      | succ i ih =>
        intro hi
        show 0 ≤ (af _ _ _ _ (bfk (pR ν law) low high c i) _).1
        rw [af_fst]
        refine le_gmn _ (ih (by omega)) (fun q hq => ?_)
        exact (bc_nonneg hok (isK_of (k := (i : Int)) (by omega)) hl.1 (by omega) (by omega) (by omega)).1
    have hgej := hge j hj
    unfold gB_X12_bestOf_27 g_X12_bestOf_171
    rw [e2]
    refine gv_cb ⟨⟨by omega, by omega⟩, ⟨by omega, by omega⟩⟩ (fun cc => gv_ret ?_) (fun cc => ?_)
    · have ej : j = 3 := by omega
      subst ej
      exact ⟨e1, f1, f2, hf⟩
    · have hkj : isK (j : Int) := isK_of (by omega)
      have hkj3 := isK_in hkj
      have rd := (hR.2.2.2.1 j hkj3.1 hkj3.2).1
      have hz : 5 - ((j : Int) + 1).toNat < 5 - s.2.toNat := by rw [e2]; omega
      have ebd : bD (pR ν law) j = ν 71 j := rfl
      have esucc : bfk (pR ν law) low high c (j + 1) = af (bc (pR ν law) low high c j) j (ν 71 j) (low + 1) (bfk (pR ν law) low high c j) (high - low).toNat := rfl
      have hpc := pcs_in (c := c) (k := (j : Int))
      refine gv_rd (d_X12_leftOf hkj hc) (gv_cz ⟨by omega, by omega⟩ (fun c1 => gv_al hkj3 ?_) (fun c1 => gv_let (hrec _ _ ⟨j + 1, by show (j : Int) + 1 = _; omega, by omega, hf, ?_, ?_, ?_⟩ hz)))
      · have h116 : ∀ frm to : Int, frm = max (low + 1 + ν 71 j) 1 → to = min (high + ν 71 j) (ν (-6903) 0) → gv (g_X12_bestOf_116 rec law low high c s.1 j to frm) T τ (fun r ν' => r = (bf (pR ν law) low high c).1 ∧ ν' (-6952) 0 = (bf (pR ν law) low high c).2.1 ∧ ν' (-6953) 0 = (bf (pR ν law) low high c).2.2 ∧ gfr [-6952, -6953] ν ν') := fun frm to hfrm hto => by
          unfold g_X12_bestOf_116
          refine gv_fx (fun (q : Int × Int) τ' => frm ≤ q.2 ∧ q.2 ≤ max frm (to + 1) ∧ gfr [-6952, -6953] ν τ' ∧ q.1 = (af (bc (pR ν law) low high c j) j (ν 71 j) (low + 1) (bfk (pR ν law) low high c j) (min high (q.2 - 1 - ν 71 j) - low).toNat).1 ∧ τ' (-6952) 0 = (af (bc (pR ν law) low high c j) j (ν 71 j) (low + 1) (bfk (pR ν law) low high c j) (min high (q.2 - 1 - ν 71 j) - low).toNat).2.1 ∧ τ' (-6953) 0 = (af (bc (pR ν law) low high c j) j (ν 71 j) (low + 1) (bfk (pR ν law) low high c j) (min high (q.2 - 1 - ν 71 j) - low).toNat).2.2) (fun q _ => (200 - q.2).toNat) ⟨Int.le_refl _, by show frm ≤ _; omega, hf, ?_⟩ (by show (200 - frm).toNat < 100000; omega) ?_
          · have estay : af (bc (pR ν law) low high c j) j (ν 71 j) (low + 1) (bfk (pR ν law) low high c j) (min high (frm - 1 - ν 71 j) - low).toNat = bfk (pR ν law) low high c j := by
              rw [af_stay (a := 0) _ (by omega) (fun i _ hi => ?_)]
              · rfl
              · show (bfk (pR ν law) low high c j).1 ≤ bc (pR ν law) low high c j (low + 1 + i)
                have : bc (pR ν law) low high c j (low + 1 + i) = 1000000000000 := by
                  unfold bc bx
                  rw [if_neg (fun hh => by have := hh.2.1.1; rw [ebd] at this; omega)]
                omega
            show s.1 = _ ∧ τ (-6952) 0 = _ ∧ τ (-6953) 0 = _
            rw [estay]
            exact ⟨e1, f1, f2⟩
          · intro rec2 q τ' hI2 hrec2
            obtain ⟨hq1, hq2, hf', g1, g2, g3⟩ := hI2
            have eR' : ∀ b ∈ ([-6903, -6908, -6909, 71, 73, 74] : List Int), τ' b = ν b := hf'.eq (by decide)
            have hqin : 0 ≤ q.1 ∧ q.1 ≤ 1000000000000 := by
              rw [g1, af_fst]
              have := gmn_init (bc (pR ν law) low high c j) (low + 1) (bfk (pR ν law) low high c j).1 (min high (q.2 - 1 - ν 71 j) - low).toNat
              exact ⟨le_gmn _ hgej (fun i hi => (bc_nonneg hok hkj hl.1 (by omega) (by omega) (by omega)).1), by omega⟩
            unfold gB_X12_bestOf_116 g_X12_bestOf_165 g_X12_bestOf_171
            refine gv_cb ⟨⟨by omega, by omega⟩, ⟨by omega, by omega⟩⟩ (fun c2 => gv_let (hrec _ _ ⟨j + 1, by show (j : Int) + 1 = _; omega, by omega, hf', ?_⟩ hz)) (fun c2 => ?_)
            · have estay : af (bc (pR ν law) low high c j) j (ν 71 j) (low + 1) (bfk (pR ν law) low high c j) (high - low).toNat = af (bc (pR ν law) low high c j) j (ν 71 j) (low + 1) (bfk (pR ν law) low high c j) (min high (q.2 - 1 - ν 71 j) - low).toNat := by
                refine af_stay _ (by omega) (fun i i1 i2 => ?_)
                rw [← g1]
                have : bc (pR ν law) low high c j (low + 1 + i) = 1000000000000 := by
                  unfold bc bx
                  rw [if_neg (fun hh => by have := hh.2.1.2; rw [ebd, show bTop (pR ν law) = ν (-6903) 0 from rfl] at this; omega)]
                omega
              rw [esucc, estay]
              exact ⟨g1, g2, g3⟩
            · have hs : 1 ≤ q.2 ∧ q.2 ≤ ν (-6903) 0 := by omega
              have he : low < q.2 - ν 71 j ∧ q.2 - ν 71 j ≤ high := by omega
              have hof := d_X12_ofFall (T := T) (ν := τ') (law := law) (low := low) (high := high) (c := c) (k := j) (s := q.2) (rOK_fr eR' hR) hlaw hkj hl.1 (by rw [eR' (-6903) (by decide)]; exact h40) (by rw [eR' (-6903) (by decide)]; exact hs) (by rw [eR' 71 (by decide)]; exact he) hc (by omega)
                (by rw [eR' (-6903) (by decide), eR' 74 (by decide), hf' 92 (by decide)]; exact hw)
                (by rw [pR_fr eR', eR' 71 (by decide), hf' 91 (by decide)]; exact hT.1 _ he.1 he.2)
                (by rw [pR_fr eR', eR' 71 (by decide), hf' 91 (by decide)]; exact hT.2 j _ hkj (by omega) he.1 he.2)
              rw [pR_fr eR', eR' 71 (by decide)] at hof
              have hcn := bc_nonneg hok (c := c) (k := (j : Int)) hkj hl.1 (show high ≤ 40 by omega) he.1 he.2
              have ecnt : (min high (q.2 + 1 - 1 - ν 71 j) - low).toNat = (min high (q.2 - 1 - ν 71 j) - low).toNat + 1 := by omega
              have elast : low + 1 + ((min high (q.2 - 1 - ν 71 j) - low).toNat : Int) = q.2 - ν 71 j := by omega
              have hz2 : (200 - (q.2 + 1)).toNat < (200 - q.2).toNat := by omega
              have estep : af (bc (pR ν law) low high c j) j (ν 71 j) (low + 1) (bfk (pR ν law) low high c j) (min high (q.2 + 1 - 1 - ν 71 j) - low).toNat = if bc (pR ν law) low high c j (q.2 - ν 71 j) < q.1 then (bc (pR ν law) low high c j (q.2 - ν 71 j), (j : Int), q.2 - ν 71 j + ν 71 j) else af (bc (pR ν law) low high c j) j (ν 71 j) (low + 1) (bfk (pR ν law) low high c j) (min high (q.2 - 1 - ν 71 j) - low).toNat := by
                rw [ecnt]
                show (if bc (pR ν law) low high c j (low + 1 + ((min high (q.2 - 1 - ν 71 j) - low).toNat : Int)) < (af _ _ _ _ _ (min high (q.2 - 1 - ν 71 j) - low).toNat).1 then (bc (pR ν law) low high c j (low + 1 + ((min high (q.2 - 1 - ν 71 j) - low).toNat : Int)), (j : Int), low + 1 + ((min high (q.2 - 1 - ν 71 j) - low).toNat : Int) + ν 71 j) else _) = _
                rw [elast, ← g1]
              refine gv_rd hof (gv_cl ⟨⟨by omega, by omega⟩, ⟨by omega, by omega⟩⟩ (fun c3 => gv_put (gv_put (gv_let (hrec2 _ _ ⟨by show frm ≤ q.2 + 1; omega, by show q.2 + 1 ≤ _; omega, (hf'.up (by decide)).up (by decide), ?_⟩ hz2)))) (fun c3 => gv_let (hrec2 _ _ ⟨by show frm ≤ q.2 + 1; omega, by show q.2 + 1 ≤ _; omega, hf', ?_⟩ hz2)))
              · show bc (pR ν law) low high c j (q.2 - ν 71 j) = _ ∧ _ = _ ∧ _ = _
                rw [estep, if_pos c3, gup_ne (by decide), gup_at, gup_at]
                exact ⟨rfl, rfl, by show q.2 = q.2 - ν 71 j + ν 71 j; omega⟩
              · show q.1 = _ ∧ _ = _ ∧ _ = _
                rw [estep, if_neg c3]
                exact ⟨g1, g2, g3⟩
        rw [eR 71 (by decide)]
        have h76 : ∀ frm : Int, frm = max (low + 1 + ν 71 j) 1 → gv (g_X12_bestOf_76 rec law low high c s.1 j frm) T τ (fun r ν' => r = (bf (pR ν law) low high c).1 ∧ ν' (-6952) 0 = (bf (pR ν law) low high c).2.1 ∧ ν' (-6953) 0 = (bf (pR ν law) low high c).2.2 ∧ gfr [-6952, -6953] ν ν') := fun frm hfrm => by
          unfold g_X12_bestOf_76 g_X12_bestOf_110
          refine gv_al hkj3 (gv_get ?_)
          rw [eR 71 (by decide), eR (-6903) (by decide)]
          refine gv_cb ⟨⟨by omega, by omega⟩, ⟨by omega, by omega⟩⟩ (fun c2 => gv_get ?_) (fun c2 => gv_al hkj3 ?_)
          · rw [eR (-6903) (by decide)]
            exact h116 frm _ hfrm (by omega)
          · rw [eR 71 (by decide)]
            exact h116 frm _ hfrm (by omega)
        refine gv_cb ⟨⟨by omega, by omega⟩, ⟨by omega, by omega⟩⟩ (fun c2 => h76 1 (by omega)) (fun c2 => gv_al hkj3 ?_)
        rw [eR 71 (by decide)]
        exact h76 _ (by omega)
      all_goals
        have estay : bfk (pR ν law) low high c (j + 1) = bfk (pR ν law) low high c j := by
          rw [esucc, af_stay (a := 0) _ (by omega) (fun i _ hi => ?_)]
          · rfl
          · show (bfk (pR ν law) low high c j).1 ≤ bc (pR ν law) low high c j (low + 1 + i)
            have : bc (pR ν law) low high c j (low + 1 + i) = 1000000000000 := by
              unfold bc bx
              rw [if_neg (fun hh => by have := hh.1; omega)]
            omega
        rw [estay]
        assumption
  unfold g_X12_bestOf
  refine gv_cb ⟨⟨by omega, by omega⟩, ⟨by omega, by omega⟩⟩ (fun cc => hloop _ (by rw [if_neg cc])) (fun cc => hloop _ (by rw [if_pos (by omega)]))
theorem d_X12_isWithin {c l : Int} (hc : 0 ≤ c ∧ c < 125) (hl : 0 ≤ l ∧ l < 125) : gd (g_X12_isWithin c l) T ν (if pcs c 0 ≤ pcs l 0 ∧ pcs c 1 ≤ pcs l 1 ∧ pcs c 2 ≤ pcs l 2 then 1 else 0) := by
  have k0 : isK 0 := Or.inl rfl
  have k1 : isK 1 := Or.inr (Or.inl rfl)
  have k2 : isK 2 := Or.inr (Or.inr rfl)
  have a0 := pcs_in (c := c) (k := 0)
  have a1 := pcs_in (c := c) (k := 1)
  have a2 := pcs_in (c := c) (k := 2)
  have b0 := pcs_in (c := l) (k := 0)
  have b1 := pcs_in (c := l) (k := 1)
  have b2 := pcs_in (c := l) (k := 2)
  unfold g_X12_isWithin
  refine gd_rd (d_X12_leftOf k0 hc) (gd_rd (d_X12_leftOf k0 hl) (gd_cb ⟨⟨by omega, by omega⟩, ⟨by omega, by omega⟩⟩ (fun x => ?_) (fun x => gd_rd (d_X12_leftOf k1 hc) (gd_rd (d_X12_leftOf k1 hl) (gd_cb ⟨⟨by omega, by omega⟩, ⟨by omega, by omega⟩⟩ (fun y => ?_) (fun y => gd_rd (d_X12_leftOf k2 hc) (gd_rd (d_X12_leftOf k2 hl) (gd_cb ⟨⟨by omega, by omega⟩, ⟨by omega, by omega⟩⟩ (fun z => ?_) (fun z => ?_)))))))))
  · rw [if_neg (by omega)]; exact gd_ret
  · rw [if_neg (by omega)]; exact gd_ret
  · rw [if_neg (by omega)]; exact gd_ret
  · rw [if_pos (by omega)]; exact gd_ret
def wit (c l : Int) : Prop := pcs c 0 ≤ pcs l 0 ∧ pcs c 1 ≤ pcs l 1 ∧ pcs c 2 ≤ pcs l 2
theorem wit_un {c l k : Int} (hk : isK k) (hc : 0 ≤ c) (hp : 0 < pcs c k) (h : wit c l) : wit (c - un k) l := by
  unfold wit pcs un at *
  rcases hk with rfl | rfl | rfl <;> simp at hp h ⊢ <;> omega
/-- the rows that stand when so far is laid -/
def blP (ν : gN) (law low high left L A C : Int) : Prop := ∀ a len c : Int, low ≤ a → 0 ≤ len → a + len ≤ high → 0 ≤ c → c ≤ left → wit c left → (len < L ∨ (len = L ∧ (a < A ∨ (a = A ∧ c < C)))) → ν 91 (bix a (a + len) c) = bv (pR ν law) a (a + len) c
theorem blP.mono {law low high left L A C L' A' C' : Int} (h : blP ν law low high left L A C) (hh : ∀ a len c : Int, low ≤ a → 0 ≤ len → a + len ≤ high → 0 ≤ c → c ≤ left → (len < L' ∨ (len = L' ∧ (a < A' ∨ (a = A' ∧ c < C')))) → (len < L ∨ (len = L ∧ (a < A ∨ (a = A ∧ c < C))))) : blP ν law low high left L' A' C' :=
  fun a len c h1 h2 h3 h4 h5 h6 h7 => h a len c h1 h2 h3 h4 h5 h6 (hh a len c h1 h2 h3 h4 h5 h7)
theorem wit_refl (c : Int) : wit c c := ⟨Int.le_refl _, Int.le_refl _, Int.le_refl _⟩
theorem blP.bsT {law low high left L a len c : Int} (h : blP ν law low high left L low 0) (hL : len ≤ L) (h1 : low ≤ a) (h2 : 0 ≤ len) (h3 : a + len ≤ high) (h4 : 0 ≤ c) (h5 : c ≤ left) (h6 : wit c left) : bsT ν law a (a + len) c := by
  refine ⟨fun e e1 e2 => ?_, fun k e hk hp e1 e2 => ?_⟩
  · have := h e (a + len - e) c (by omega) (by omega) (by omega) h4 h5 h6 (by omega)
    rw [show e + (a + len - e) = a + len by omega] at this
    exact this
  · have hu := pcs_un hk hk h4 hp
    have hv := un_val hk
    have := h a (e - 1 - a) (c - un k) h1 (by omega) (by omega) hu.2.2.2 (by omega) (wit_un hk h4 hp h6) (by omega)
    rw [show a + (e - 1 - a) = e - 1 by omega] at this
    exact this
theorem s_X12_layBest {law low high left : Int} (hR : rOK ν) (hlaw : 0 ≤ law ∧ law ≤ 3) (hl : 0 ≤ low ∧ low ≤ high) (h40 : high ≤ ν (-6903) 0) (hc : 0 ≤ left ∧ left < 125) (h92 : ν 92 0 = 0) : gv (g_X12_layBest law low high left) T ν (fun r ν' => r = bv (pR ν law) low high left ∧ ν' (-6952) 0 = (bf (pR ν law) low high left).2.1 ∧ ν' (-6953) 0 = (bf (pR ν law) low high left).2.2 ∧ gfr [-6952, -6953, 91, 92] ν ν' ∧ ν' 92 0 = 0) := by
  have htop := hR.1
  unfold g_X12_layBest g_X12_layBest_3
  refine gv_fx (fun (x : Int) τ => (0 ≤ x ∧ x ≤ ν (-6903) 0 + 1) ∧ gfr [-6952, -6953, 91, 92] ν τ ∧ ∀ t : Int, 0 ≤ t → t ≤ x → τ 92 t = gsum (ν 74) t.toNat) (fun x _ => (50 - x).toNat) ⟨by omega, gfr.refl _ _, fun t t1 t2 => by rw [show t = 0 by omega, h92]; rfl⟩ (by omega) ?_
  intro rec x τ hI hrec
  obtain ⟨hx, hf, hw⟩ := hI
  unfold gB_X12_layBest_3
  refine gv_get ?_
  rw [hf (-6903) (by decide)]
  refine gv_cb ⟨⟨by omega, by omega⟩, ⟨by omega, by omega⟩⟩ (fun c1 => ?_) (fun c1 => gv_al ⟨by omega, by omega⟩ (gv_al ⟨by omega, by omega⟩ ?_))
  · have ex : x = ν (-6903) 0 + 1 := by omega
    subst ex
    unfold g_X12_layBest_45
    refine gv_fx (fun (L : Int) τ => (0 ≤ L ∧ L ≤ high - low + 1) ∧ gfr [-6952, -6953, 91, 92] ν τ ∧ (∀ t : Int, 0 ≤ t → t ≤ ν (-6903) 0 + 1 → τ 92 t = gsum (ν 74) t.toNat) ∧ blP τ law low high left L low 0) (fun L _ => (50 - L).toNat) ⟨by omega, hf, hw, fun a len c h1 h2 h3 h4 h5 h6 h7 => by omega⟩ (by omega) ?_
    intro rec1 L τ1 hI1 hrec1
    obtain ⟨hL, hf1, hw1, hP1⟩ := hI1
    have e1 : ∀ b ∈ ([-6903, -6908, -6909, 71, 73, 74] : List Int), τ1 b = ν b := hf1.eq (by decide)
    unfold gB_X12_layBest_45
    refine gv_cb ⟨⟨by omega, by omega⟩, ⟨by omega, by omega⟩⟩ (fun c2 => ?_) (fun c2 => ?_)
    · have hbs : bsT τ1 law low high left := by
        have := hP1.bsT (a := low) (len := high - low) (c := left) (by omega) (by omega) (by omega) (by omega) hc.1 (by omega) (wit_refl _)
        rw [show low + (high - low) = high by omega] at this
        exact this
      refine gv_call (s_X12_bestOf (rOK_fr e1 hR) hlaw hl (by rw [e1 (-6903) (by decide)]; exact h40) hc (by rw [e1 (-6903) (by decide), e1 74 (by decide)]; exact hw1) hbs) (fun r ν2 h2 => gv_ret ?_)
      rw [pR_fr e1] at h2
      obtain ⟨q1, q2, q3, q4⟩ := h2
      refine ⟨by rw [q1]; exact bf_fst _ _ hl.2, q2, q3, hf1.trans (q4.mono (by decide)), ?_⟩
      rw [q4 92 (by decide)]
      exact hw1 0 (by omega) (by omega)
    · unfold g_X12_layBest_56
      refine gv_fx (fun (A : Int) τ => (low ≤ A ∧ A ≤ high + 1) ∧ gfr [-6952, -6953, 91, 92] ν τ ∧ (∀ t : Int, 0 ≤ t → t ≤ ν (-6903) 0 + 1 → τ 92 t = gsum (ν 74) t.toNat) ∧ blP τ law low high left L A 0) (fun A _ => (50 - A).toNat) ⟨by omega, hf1, hw1, hP1⟩ (by omega) ?_
      intro rec2 A τ2 hI2 hrec2
      obtain ⟨hA, hf2, hw2, hP2⟩ := hI2
      unfold gB_X12_layBest_56
      refine gv_cb ⟨⟨by omega, by omega⟩, ⟨by omega, by omega⟩⟩ (fun c3 => gv_let (hrec1 _ _ ⟨by omega, hf2, hw2, hP2.mono (by omega)⟩ (by omega))) (fun c3 => ?_)
      unfold g_X12_layBest_68
      refine gv_fx (fun (C : Int) τ => (0 ≤ C ∧ C ≤ left + 1) ∧ gfr [-6952, -6953, 91, 92] ν τ ∧ (∀ t : Int, 0 ≤ t → t ≤ ν (-6903) 0 + 1 → τ 92 t = gsum (ν 74) t.toNat) ∧ blP τ law low high left L A C) (fun C _ => (200 - C).toNat) ⟨by omega, hf2, hw2, hP2⟩ (by omega) ?_
      intro rec3 C τ3 hI3 hrec3
      obtain ⟨hC, hf3, hw3, hP3⟩ := hI3
      have e3 : ∀ b ∈ ([-6903, -6908, -6909, 71, 73, 74] : List Int), τ3 b = ν b := hf3.eq (by decide)
      unfold gB_X12_layBest_68 g_X12_layBest_121
      refine gv_cb ⟨⟨by omega, by omega⟩, ⟨by omega, by omega⟩⟩ (fun c4 => gv_let (hrec2 _ _ ⟨by omega, hf3, hw3, hP3.mono (by omega)⟩ (by omega))) (fun c4 => gv_rd (d_X12_isWithin (by omega) hc) ?_)
      by_cases cw : wit C left
      · rw [if_pos (show pcs C 0 ≤ pcs left 0 ∧ pcs C 1 ≤ pcs left 1 ∧ pcs C 2 ≤ pcs left 2 from cw)]
        refine gv_cz (by decide) (fun h => absurd h (by decide)) (fun _ => ?_)
        have hbs : bsT τ3 law A (A + L) C := (hP3.mono (by omega) : blP τ3 law low high left L low 0).bsT (Int.le_refl _) (by omega) (by omega) (by omega) (by omega) (by omega) cw
        refine gv_call (s_X12_bestOf (rOK_fr e3 hR) hlaw ⟨by omega, by omega⟩ (by rw [e3 (-6903) (by decide)]; omega) ⟨by omega, by omega⟩ (by rw [e3 (-6903) (by decide), e3 74 (by decide)]; exact hw3) hbs) (fun r ν4 h4 => ?_)
        rw [pR_fr e3] at h4
        obtain ⟨q1, q2, q3, q4⟩ := h4
        have hf4 := hf3.trans (q4.mono (W' := [-6952, -6953, 91, 92]) (by decide))
        have e4 : ∀ b ∈ ([-6903, -6908, -6909, 71, 73, 74] : List Int), ν4 b = ν b := hf4.eq (by decide)
        refine gv_as ⟨by omega, by omega⟩ (gv_let (hrec3 _ _ ⟨by omega, hf4.up (by decide), fun t t1 t2 => ?_, ?_⟩ (by omega)))
        · rw [gup_ne (by decide), q4 92 (by decide)]; exact hw3 t t1 t2
        · have e5 : pR (gup ν4 91 (125 * (41 * A + A + L) + C) r) law = pR ν law := by
            rw [pR_fr (ν := ν4) (fun b hb => gup_ne (fun h => by rw [h] at hb; exact absurd hb (by decide))), pR_fr e4]
          intro a len c h1 h2 h3 h5 h6 h7 h8
          rw [e5, gup_same]
          by_cases ee : a = A ∧ len = L ∧ c = C
          · obtain ⟨rfl, rfl, rfl⟩ := ee
            rw [if_pos (by unfold bix; omega), q1, bf_fst _ _ (by omega)]
          · rw [if_neg (fun hh => ee (by
              have := bix_inj (a := a) (b := a + len) (c := c) (a' := A) (b' := A + L) (c' := C) (by omega) (by omega) (by omega) (by omega) (by unfold bix at hh ⊢; omega)
              omega)), q4 91 (by decide)]
            have := hP3 a len c h1 h2 h3 h5 h6 h7 (by omega)
            rw [pR_fr e3] at this
            exact this
      · rw [if_neg (show ¬ (pcs C 0 ≤ pcs left 0 ∧ pcs C 1 ≤ pcs left 1 ∧ pcs C 2 ≤ pcs left 2) from cw)]
        refine gv_cz (by decide) (fun _ => gv_let (hrec3 _ _ ⟨by omega, hf3, hw3, ?_⟩ (by omega))) (fun h => absurd rfl h)
        intro a len c h1 h2 h3 h5 h6 h7 h8
        by_cases ee : a = A ∧ len = L ∧ c = C
        · exact absurd (ee.2.2 ▸ h7) cw
        · exact hP3 a len c h1 h2 h3 h5 h6 h7 (by omega)
  · rw [hw x (by omega) (Int.le_refl _), hf 74 (by decide)]
    refine gv_as ⟨by omega, by omega⟩ (gv_let (hrec _ _ ⟨by omega, hf.up (by decide), fun t t1 t2 => ?_⟩ (by omega)))
    rw [gup_same]
    by_cases e : t = x + 1
    · rw [if_pos e, e, show (x + 1).toNat = x.toNat + 1 by omega]
      show _ = gsum (ν 74) x.toNat + ν 74 (x.toNat : Int)
      rw [show ((x.toNat : Nat) : Int) = x by omega]
    · rw [if_neg e]; exact hw t t1 (by omega)
end
