/-! NOTES: which count -/
def cst (S c : Int → Int) (i : Int) : Int → Int := if c i ≠ 0 ∧ S i ≠ -1 then (fun j => if j = S i then 0 else c j) else c
def cfd (S : Int → Int) : Nat → (Int → Int) → Int → Int
  | 0, c => c
  | n + 1, c => cfd S n (cst S c n)
theorem cfd_congr {S S' : Int → Int} : ∀ (n : Nat) (c : Int → Int), (∀ i : Int, 0 ≤ i → i < n → S i = S' i) → cfd S n c = cfd S' n c := by
  intro n
  induction n with
  | zero => intro c _; rfl
  | succ n ih =>
    intro c h
    show cfd S n (cst S c n) = cfd S' n (cst S' c n)
    rw [show cst S c n = cst S' c n by unfold cst; rw [h n (by omega) (by omega)]]
    exact ih _ (fun i h1 h2 => h i h1 (by omega))
section
variable {T : gT} {ν : gN}
def sR (ν : gN) (i : Int) : Int := if ν 96 i < 0 then ν 98 i else -1
theorem s_X12_layCounts (h : nR ν) : gv g_X12_layCounts T ν (fun _ ν' => gfr [100] ν ν' ∧ ∀ j : Int, 0 ≤ j → j < ν (-6957) 0 → ν' 100 j = cfd (sR ν) (ν (-6957) 0).toNat (fun _ => 1) j ∧ (ν' 100 j = 0 ∨ ν' 100 j = 1)) := by
  obtain ⟨h1, h2, h3⟩ := h
  unfold g_X12_layCounts g_X12_layCounts_2
  refine gv_fx (fun (x : Int) τ => ∃ j : Nat, x = j ∧ j ≤ ν (-6957) 0 ∧ gfr [100] ν τ ∧ ∀ k : Int, 0 ≤ k → k < j → τ 100 k = 1) (fun x _ => 40 - x.toNat) ⟨0, rfl, by omega, gfr.refl _ _, fun k h1 h2 => by omega⟩ (by omega) ?_
  intro rec x τ hI hrec
  obtain ⟨j, rfl, hj, hf, hz⟩ := hI
  have hT : τ (-6957) = ν (-6957) := hf _ (by decide)
  unfold gB_X12_layCounts_2
  refine gv_get ?_
  rw [hT]
  refine gv_cb ⟨⟨by omega, by omega⟩, ⟨by omega, by omega⟩⟩ (fun c => gv_get (gv_let ?_)) (fun c => ?_)
  · rw [hT]
    unfold g_X12_layCounts_30
    refine gv_fx (fun (x : Int) τ' => ∃ n : Nat, x = (n : Int) - 1 ∧ n ≤ ν (-6957) 0 ∧ gfr [100] ν τ' ∧ ∃ c : Int → Int, (∀ k : Int, 0 ≤ k → k < ν (-6957) 0 → τ' 100 k = c k ∧ (c k = 0 ∨ c k = 1)) ∧ cfd (sR ν) n c = cfd (sR ν) (ν (-6957) 0).toNat (fun _ => 1)) (fun x _ => (x + 1).toNat) ⟨(ν (-6957) 0).toNat, by omega, by omega, hf, fun _ => 1, fun k k1 k2 => ⟨hz k k1 (by omega), Or.inr rfl⟩, rfl⟩ (by omega) ?_
    intro rec2 x τ' hI2 hrec2
    obtain ⟨n, rfl, hn, hf', cc, hcc, hfd⟩ := hI2
    unfold gB_X12_layCounts_30 g_X12_layCounts_64
    refine gv_cz ⟨by omega, by omega⟩ (fun c0 => gv_ret ⟨hf', fun k k1 k2 => ?_⟩) (fun c0 => ?_)
    · have hn0 : n = 0 := by omega
      subst hn0
      have e := hcc k k1 k2
      rw [← hfd]
      exact ⟨e.1, by rw [e.1]; exact e.2⟩
    · obtain ⟨q, rfl⟩ := Nat.exists_eq_succ_of_ne_zero (show n ≠ 0 by omega)
      have eq : ((q + 1 : Nat) : Int) - 1 = q := by omega
      rw [Nat.succ_eq_add_one, eq]
      have e96 : τ' 96 = ν 96 := hf' _ (by decide)
      have e98 : τ' 98 = ν 98 := hf' _ (by decide)
      have g := h3 q (by omega) (by omega)
      have ec := hcc q (by omega) (by omega)
      have hfd' : cfd (sR ν) q (cst (sR ν) cc q) = cfd (sR ν) (ν (-6957) 0).toNat (fun _ => 1) := hfd
      refine gv_al ⟨by omega, by omega⟩ ?_
      rw [e96]
      refine gv_cz ⟨by omega, by omega⟩ (fun c1 => gv_let (hrec2 _ _ ⟨q, by omega, by omega, hf', cc, hcc, ?_⟩ (by omega))) (fun c1 => ?_)
      · rw [show cst (sR ν) cc q = cc by unfold cst sR; rw [if_neg (by rw [if_neg (by omega)]; exact fun h => h.2 rfl)]] at hfd'
        exact hfd'
      · refine gv_al ⟨by omega, by omega⟩ (gv_cz (by rw [ec.1]; rcases ec.2 with e | e <;> rw [e] <;> decide) (fun c2 => gv_let (hrec2 _ _ ⟨q, by omega, by omega, hf', cc, hcc, ?_⟩ (by omega))) (fun c2 => ?_))
        · rw [show cst (sR ν) cc q = cc by unfold cst; rw [if_neg (fun h => h.1 (by rw [← ec.1]; exact c2))]] at hfd'
          exact hfd'
        · have g' : 0 ≤ ν 98 q ∧ ν 98 q < q := by rcases g with g | g <;> omega
          refine gv_al ⟨by omega, by omega⟩ ?_
          rw [e98]
          refine gv_as ⟨by omega, by omega⟩ (gv_let (hrec2 _ _ ⟨q, by omega, by omega, hf'.up (by decide), fun j => if j = ν 98 q then 0 else cc j, fun k k1 k2 => ?_, ?_⟩ (by omega)))
          · rw [gup_same]
            show (if k = ν 98 q then 0 else τ' 100 k) = (if k = ν 98 q then 0 else cc k) ∧ _
            by_cases e : k = ν 98 q
            · rw [if_pos e, if_pos e]; exact ⟨rfl, Or.inl (if_pos e)⟩
            · rw [if_neg e, if_neg e]; exact ⟨(hcc k k1 k2).1, by rw [show (fun j => if j = ν 98 q then 0 else cc j) k = cc k from if_neg e]; exact (hcc k k1 k2).2⟩
          · have es : sR ν q = ν 98 q := by unfold sR; rw [if_pos (by omega)]
            rw [show cst (sR ν) cc q = (fun j => if j = ν 98 q then 0 else cc j) by unfold cst; rw [if_pos ⟨by rw [← ec.1]; exact c2, by rw [es]; omega⟩, es]] at hfd'
            exact hfd'
  · refine gv_as ⟨by omega, by omega⟩ (gv_let ?_)
    refine hrec _ _ ⟨j + 1, by omega, by omega, hf.up (by decide), fun k h1 h2 => ?_⟩ (by omega)
    rw [gup_same]
    by_cases e : k = j
    · rw [if_pos e]
    · rw [if_neg e]; exact hz k h1 (by omega)
theorem s_X3_settle (h : 0 ≤ ν (-5300) 0 ∧ ν (-5300) 0 ≤ 40) (h3 : ∀ i : Int, 0 ≤ i → i < ν (-5300) 0 → ν 58 i = -1 ∨ (0 ≤ ν 58 i ∧ ν 58 i < i)) : gv g_X3_settle T ν (fun _ ν' => gfr [59] ν ν' ∧ ∀ j : Int, 0 ≤ j → j < ν (-5300) 0 → ν' 59 j = cfd (ν 58) (ν (-5300) 0).toNat (fun _ => 1) j ∧ (ν' 59 j = 0 ∨ ν' 59 j = 1)) := by
  obtain ⟨h1, h2⟩ := h
  unfold g_X3_settle g_X3_settle_2
  refine gv_fx (fun (x : Int) τ => ∃ j : Nat, x = j ∧ j ≤ ν (-5300) 0 ∧ gfr [59] ν τ ∧ ∀ k : Int, 0 ≤ k → k < j → τ 59 k = 1) (fun x _ => 40 - x.toNat) ⟨0, rfl, by omega, gfr.refl _ _, fun k h1 h2 => by omega⟩ (by omega) ?_
  intro rec x τ hI hrec
  obtain ⟨j, rfl, hj, hf, hz⟩ := hI
  have hT : τ (-5300) = ν (-5300) := hf _ (by decide)
  unfold gB_X3_settle_2
  refine gv_get ?_
  rw [hT]
  refine gv_cb ⟨⟨by omega, by omega⟩, ⟨by omega, by omega⟩⟩ (fun c => gv_get (gv_let ?_)) (fun c => ?_)
  · rw [hT]
    unfold g_X3_settle_30
    refine gv_fx (fun (x : Int) τ' => ∃ n : Nat, x = (n : Int) - 1 ∧ n ≤ ν (-5300) 0 ∧ gfr [59] ν τ' ∧ ∃ c : Int → Int, (∀ k : Int, 0 ≤ k → k < ν (-5300) 0 → τ' 59 k = c k ∧ (c k = 0 ∨ c k = 1)) ∧ cfd (ν 58) n c = cfd (ν 58) (ν (-5300) 0).toNat (fun _ => 1)) (fun x _ => (x + 1).toNat) ⟨(ν (-5300) 0).toNat, by omega, by omega, hf, fun _ => 1, fun k k1 k2 => ⟨hz k k1 (by omega), Or.inr rfl⟩, rfl⟩ (by omega) ?_
    intro rec2 x τ' hI2 hrec2
    obtain ⟨n, rfl, hn, hf', cc, hcc, hfd⟩ := hI2
    unfold gB_X3_settle_30 g_X3_settle_65
    refine gv_cz ⟨by omega, by omega⟩ (fun c0 => gv_ret ⟨hf', fun k k1 k2 => ?_⟩) (fun c0 => ?_)
    · have hn0 : n = 0 := by omega
      subst hn0
      have e := hcc k k1 k2
      rw [← hfd]
      exact ⟨e.1, by rw [e.1]; exact e.2⟩
    · obtain ⟨q, rfl⟩ := Nat.exists_eq_succ_of_ne_zero (show n ≠ 0 by omega)
      have eq : ((q + 1 : Nat) : Int) - 1 = q := by omega
      rw [Nat.succ_eq_add_one, eq]
      have e58 : τ' 58 = ν 58 := hf' _ (by decide)
      have g := h3 q (by omega) (by omega)
      have ec := hcc q (by omega) (by omega)
      have hfd' : cfd (ν 58) q (cst (ν 58) cc q) = cfd (ν 58) (ν (-5300) 0).toNat (fun _ => 1) := hfd
      refine gv_al ⟨by omega, by omega⟩ (gv_cz (by rw [ec.1]; rcases ec.2 with e | e <;> rw [e] <;> decide) (fun c2 => gv_let (hrec2 _ _ ⟨q, by omega, by omega, hf', cc, hcc, ?_⟩ (by omega))) (fun c2 => ?_))
      · rw [show cst (ν 58) cc q = cc by unfold cst; rw [if_neg (fun h => h.1 (by rw [← ec.1]; exact c2))]] at hfd'
        exact hfd'
      · refine gv_al ⟨by omega, by omega⟩ ?_
        rw [e58]
        refine gv_cb ⟨⟨by omega, by omega⟩, ⟨by omega, by omega⟩⟩ (fun c1 => gv_let (hrec2 _ _ ⟨q, by omega, by omega, hf', cc, hcc, ?_⟩ (by omega))) (fun c1 => ?_)
        · rw [show cst (ν 58) cc q = cc by unfold cst; rw [if_neg (fun h => h.2 c1)]] at hfd'
          exact hfd'
        · refine gv_al ⟨by omega, by omega⟩ ?_
          rw [e58]
          refine gv_as ⟨by omega, by omega⟩ (gv_let (hrec2 _ _ ⟨q, by omega, by omega, hf'.up (by decide), fun j => if j = ν 58 q then 0 else cc j, fun k k1 k2 => ?_, ?_⟩ (by omega)))
          · rw [gup_same]
            show (if k = ν 58 q then 0 else τ' 59 k) = (if k = ν 58 q then 0 else cc k) ∧ _
            by_cases e : k = ν 58 q
            · rw [if_pos e, if_pos e]; exact ⟨rfl, Or.inl (if_pos e)⟩
            · rw [if_neg e, if_neg e]; exact ⟨(hcc k k1 k2).1, by rw [show (fun j => if j = ν 58 q then 0 else cc j) k = cc k from if_neg e]; exact (hcc k k1 k2).2⟩
          · rw [show cst (ν 58) cc q = (fun j => if j = ν 58 q then 0 else cc j) by unfold cst; rw [if_pos ⟨by rw [← ec.1]; exact c2, c1⟩]] at hfd'
            exact hfd'
  · refine gv_as ⟨by omega, by omega⟩ (gv_let ?_)
    refine hrec _ _ ⟨j + 1, by omega, by omega, hf.up (by decide), fun k h1 h2 => ?_⟩ (by omega)
    rw [gup_same]
    by_cases e : k = j
    · rw [if_pos e]
    · rw [if_neg e]; exact hz k h1 (by omega)
/-! the loops over the doubts -/
theorem d_X12_fitting_13 {k : Int} (h : nR ν) (hcn : ∀ i : Int, 0 ≤ i → i < ν (-6957) 0 → ν 100 i = 0 ∨ ν 100 i = 1) (hd : nD ν 71) (hk : -2147483648 ≤ k ∧ k ≤ 2147483647) (ht : 1 ≤ ν (-6903) 0 ∧ ν (-6903) 0 ≤ 40) : gd (g_X12_fitting_13 k 0 0) T ν (fitG (dR ν) k ((ν (-6903) 0).toNat + 1) 0 0) := by
  unfold g_X12_fitting_13
  refine gd_fx (fun (s : Int × Int) => ∃ j : Nat, s.2 = j ∧ j ≤ ν (-6903) 0 + 1 ∧ (0 ≤ s.1 ∧ s.1 ≤ j) ∧ fitG (dR ν) k ((ν (-6903) 0).toNat + 1 - j) j s.1 = fitG (dR ν) k ((ν (-6903) 0).toNat + 1) 0 0) (fun s => 50 - s.2.toNat) ⟨0, rfl, by omega, ⟨by show (0 : Int) ≤ 0; omega, by show (0 : Int) ≤ _; omega⟩, rfl⟩ (by show 50 - (0 : Int).toNat < 100000; omega) ?_
  intro rec s hI hrec
  obtain ⟨j, e2, hj, hs, e1⟩ := hI
  rw [← e1]
  unfold gB_X12_fitting_13 g_X12_fitting_42
  refine gd_get ?_
  rw [e2]
  refine gd_cb ⟨⟨by omega, by omega⟩, ⟨by omega, by omega⟩⟩ (fun c => gd_ck ⟨hk, by decide⟩ (gd_let ?_)) (fun c => gd_rd (d_X12_doubtOf h hcn hd ⟨by omega, by omega⟩) ?_)
  · rw [show (ν (-6903) 0).toNat + 1 - j = 0 by omega]
    show gd (gret (if ¬k = -1 then -1 else s.1)) T ν (if k = -1 then s.1 else -1)
    by_cases c2 : k = -1
    · rw [if_pos c2, if_neg (fun h => h c2)]; exact gd_ret
    · rw [if_neg c2, if_pos c2]; exact gd_ret
  · have hb := dR40 h j
    obtain ⟨m, hm⟩ : ∃ m, (ν (-6903) 0).toNat + 1 - j = m + 1 := ⟨(ν (-6903) 0).toNat - j, by omega⟩
    have hm2 : (ν (-6903) 0).toNat + 1 - (j + 1) = m := by omega
    rw [hm] at e1
    rw [hm]
    have hz : 50 - ((j : Int) + 1).toNat < 50 - s.2.toNat := by rw [e2]; omega
    show gd _ T ν (if dR ν j = 0 then (if s.1 = k then (j : Int) else fitG (dR ν) k m (j + 1) (s.1 + 1)) else fitG (dR ν) k m (j + 1) s.1)
    replace e1 : (if dR ν j = 0 then (if s.1 = k then (j : Int) else fitG (dR ν) k m (j + 1) (s.1 + 1)) else fitG (dR ν) k m (j + 1) s.1) = _ := e1
    refine gd_cz ⟨by omega, by omega⟩ (fun c2 => gd_cb ⟨by omega, hk⟩ (fun c3 => gd_let (gd_let ?_)) (fun c3 => ?_)) (fun c2 => gd_let ?_)
    · rw [if_pos (by omega), if_neg c3] at e1
      rw [if_pos (by omega), if_neg c3, e1]
      refine hrec _ ⟨j + 1, by show (j : Int) + 1 = _; omega, by omega, ⟨by show 0 ≤ s.1 + 1; omega, by show s.1 + 1 ≤ ((j + 1 : Nat) : Int); omega⟩, ?_⟩ hz
      rw [hm2]; exact e1
    · rw [if_pos (by omega), if_pos (by omega)]; exact gd_ret
    · rw [if_neg (by omega)] at e1
      rw [if_neg (by omega), e1]
      refine hrec _ ⟨j + 1, by show (j : Int) + 1 = _; omega, by omega, ⟨hs.1, by show s.1 ≤ ((j + 1 : Nat) : Int); omega⟩, ?_⟩ hz
      rw [hm2]; exact e1
theorem d_X12_leastDoubted (h : nR ν) (hcn : ∀ i : Int, 0 ≤ i → i < ν (-6957) 0 → ν 100 i = 0 ∨ ν 100 i = 1) (hd : nD ν 71) (ht : 1 ≤ ν (-6903) 0 ∧ ν (-6903) 0 ≤ 40) : gd g_X12_leastDoubted T ν (ldG (dR ν) (ν (-6903) 0).toNat 1 0) := by
  unfold g_X12_leastDoubted g_X12_leastDoubted_4
  refine gd_fx (fun (s : Int × Int) => ∃ j : Nat, s.2 = j ∧ 1 ≤ j ∧ j ≤ ν (-6903) 0 + 1 ∧ (0 ≤ s.1 ∧ s.1 < j) ∧ ldG (dR ν) ((ν (-6903) 0).toNat + 1 - j) j s.1 = ldG (dR ν) (ν (-6903) 0).toNat 1 0) (fun s => 50 - s.2.toNat) ⟨1, rfl, by omega, by omega, ⟨by show (0 : Int) ≤ 0; omega, by show (0 : Int) < 1; omega⟩, rfl⟩ (by show 50 - (1 : Int).toNat < 100000; omega) ?_
  intro rec s hI hrec
  obtain ⟨j, e2, hj1, hj, hs, e1⟩ := hI
  rw [← e1]
  unfold gB_X12_leastDoubted_4
  refine gd_get ?_
  rw [e2]
  refine gd_cb ⟨⟨by omega, by omega⟩, ⟨by omega, by omega⟩⟩ (fun c => ?_) (fun c => gd_rd (d_X12_doubtOf h hcn hd ⟨by omega, by omega⟩) (gd_rd (d_X12_doubtOf h hcn hd ⟨by omega, by omega⟩) ?_))
  · rw [show (ν (-6903) 0).toNat + 1 - j = 0 by omega]; exact gd_ret
  · have hb := dR40 h j
    have hb2 := dR40 h s.1
    obtain ⟨m, hm⟩ : ∃ m, (ν (-6903) 0).toNat + 1 - j = m + 1 := ⟨(ν (-6903) 0).toNat - j, by omega⟩
    have hm2 : (ν (-6903) 0).toNat + 1 - (j + 1) = m := by omega
    rw [hm] at e1
    rw [hm]
    replace e1 : ldG (dR ν) m (j + 1) (if dR ν j < dR ν s.1 then (j : Int) else s.1) = _ := e1
    have e3 : (if dR ν s.1 ≤ dR ν j then s.1 else (j : Int)) = (if dR ν j < dR ν s.1 then (j : Int) else s.1) := by
      by_cases c3 : dR ν j < dR ν s.1
      · rw [if_pos c3, if_neg (by omega)]
      · rw [if_neg c3, if_pos (by omega)]
    show gd _ T ν (ldG (dR ν) m (j + 1) (if dR ν j < dR ν s.1 then (j : Int) else s.1))
    rw [e1]
    refine gd_ck ⟨⟨by omega, by omega⟩, ⟨by omega, by omega⟩⟩ (gd_let (gd_let (hrec _ ⟨j + 1, by show (j : Int) + 1 = _; omega, by omega, by omega, ?_, ?_⟩ (by show 50 - ((j : Int) + 1).toNat < 50 - s.2.toNat; rw [e2]; omega))))
    · show 0 ≤ (if dR ν s.1 ≤ dR ν j then s.1 else (j : Int)) ∧ (if dR ν s.1 ≤ dR ν j then s.1 else (j : Int)) < ((j + 1 : Nat) : Int)
      split <;> omega
    · rw [hm2]
      show ldG (dR ν) m ((j + 1 : Nat) : Int) (if dR ν s.1 ≤ dR ν j then s.1 else (j : Int)) = _
      rw [e3]; exact e1
theorem d_X3_leastDoubted (h : nC ν) (hd : nD ν 3) (ht : 1 ≤ ν (-200) 0 ∧ ν (-200) 0 ≤ 40) : gd g_X3_leastDoubted T ν (ldG (dC ν) (ν (-200) 0).toNat 1 0) := by
  unfold g_X3_leastDoubted g_X3_leastDoubted_12
  refine gd_rd (d_X3_wrongAt h hd (by decide)) ?_
  refine gd_fx (fun (s : Int × Int × Int) => ∃ j : Nat, s.2.2 = j ∧ 1 ≤ j ∧ j ≤ ν (-200) 0 + 1 ∧ (0 ≤ s.1 ∧ s.1 < j) ∧ s.2.1 = dC ν s.1 ∧ ldG (dC ν) ((ν (-200) 0).toNat + 1 - j) j s.1 = ldG (dC ν) (ν (-200) 0).toNat 1 0) (fun s => 50 - s.2.2.toNat) ⟨1, rfl, by omega, by omega, ⟨by show (0 : Int) ≤ 0; omega, by show (0 : Int) < 1; omega⟩, rfl, rfl⟩ (by show 50 - (1 : Int).toNat < 100000; omega) ?_
  intro rec s hI hrec
  obtain ⟨j, e2, hj1, hj, hs, e0, e1⟩ := hI
  rw [← e1]
  unfold gB_X3_leastDoubted_12 g_X3_leastDoubted_42
  refine gd_get ?_
  rw [e2, e0]
  refine gd_cb ⟨⟨by omega, by omega⟩, ⟨by omega, by omega⟩⟩ (fun c => ?_) (fun c => gd_rd (d_X3_wrongAt h hd ⟨by omega, by omega⟩) ?_)
  · rw [show (ν (-200) 0).toNat + 1 - j = 0 by omega]; exact gd_ret
  · have hb := dC40 h j
    have hb2 := dC40 h s.1
    obtain ⟨m, hm⟩ : ∃ m, (ν (-200) 0).toNat + 1 - j = m + 1 := ⟨(ν (-200) 0).toNat - j, by omega⟩
    have hm2 : (ν (-200) 0).toNat + 1 - (j + 1) = m := by omega
    rw [hm] at e1
    rw [hm]
    replace e1 : ldG (dC ν) m (j + 1) (if dC ν j < dC ν s.1 then (j : Int) else s.1) = _ := e1
    show gd _ T ν (ldG (dC ν) m (j + 1) (if dC ν j < dC ν s.1 then (j : Int) else s.1))
    rw [e1]
    refine gd_cb ⟨⟨by omega, by omega⟩, ⟨by omega, by omega⟩⟩ (fun c2 => gd_let (hrec _ ⟨j + 1, by show (j : Int) + 1 = _; omega, by omega, by omega, ⟨hs.1, by show s.1 < ((j + 1 : Nat) : Int); omega⟩, rfl, ?_⟩ ?_)) (fun c2 => gd_let (hrec _ ⟨j + 1, by show (j : Int) + 1 = _; omega, by omega, by omega, ⟨by show 0 ≤ (j : Int); omega, by show (j : Int) < ((j + 1 : Nat) : Int); omega⟩, rfl, ?_⟩ ?_))
    · rw [hm2]
      rw [if_neg (by omega)] at e1
      exact e1
    · show 50 - ((j : Int) + 1).toNat < 50 - s.2.2.toNat
      rw [e2]; omega
    · rw [hm2]
      rw [if_pos (by omega)] at e1
      exact e1
    · show 50 - ((j : Int) + 1).toNat < 50 - s.2.2.toNat
      rw [e2]; omega
/-- whose doubts -/
def bC (ν : gN) (who t : Int) : Int := gsum (fun i => if ν 54 i = who then dc ν i t else 0) (ν (-5300) 0).toNat
def bR (ν : gN) (who t : Int) : Int := gsum (fun i => if ν 96 i = who then dr ν i t else 0) (ν (-6957) 0).toNat
theorem d_X3_wrongBy {who t : Int} (h : nC ν) (hw : ∀ i : Int, 0 ≤ i → i < ν (-5300) 0 → -1 ≤ ν 54 i ∧ ν 54 i ≤ 5) (hd : nD ν 3) (ht : -1000 ≤ t ∧ t ≤ 1000) (hwho : 0 ≤ who ∧ who ≤ 5) : gd (g_X3_wrongBy who t) T ν (bC ν who t) := by
  have h1 := h.1
  have h2 := h.2.1
  unfold g_X3_wrongBy g_X3_wrongBy_6
  refine gd_fx (fun (s : Int × Int) => ∃ j : Nat, s.2 = j ∧ j ≤ ν (-5300) 0 ∧ s.1 = gsum (fun i => if ν 54 i = who then dc ν i t else 0) j) (fun s => 40 - s.2.toNat) ⟨0, rfl, by omega, rfl⟩ (by show 40 - (0 : Int).toNat < 100000; omega) ?_
  intro rec s hI hrec
  obtain ⟨j, e2, hj, e1⟩ := hI
  unfold gB_X3_wrongBy_6 g_X3_wrongBy_40
  refine gd_get ?_
  rw [e2]
  have hz : 40 - ((j : Int) + 1).toNat < 40 - s.2.toNat ∨ ν (-5300) 0 ≤ j := by rw [e2]; omega
  refine gd_cb ⟨⟨by omega, by omega⟩, ⟨by omega, by omega⟩⟩ (fun c => ?_) (fun c => ?_)
  · rw [e1, show j = (ν (-5300) 0).toNat by omega]; exact gd_ret
  · have h01 := dc01 ν j t
    have hw1 := hw j (by omega) (by omega)
    have hz' : 40 - ((j : Int) + 1).toNat < 40 - s.2.toNat := by rw [e2]; omega
    refine gd_al ⟨by omega, by omega⟩ (gd_cb ⟨⟨by omega, by omega⟩, ⟨by omega, by omega⟩⟩ (fun c2 => gd_let (hrec _ ⟨j + 1, by show (j : Int) + 1 = _; omega, by omega, ?_⟩ hz')) (fun c2 => gd_rd (d_X3_isWrong h hd ⟨by omega, by omega⟩ ht) (gd_cz ⟨by omega, by omega⟩ (fun c3 => gd_let (hrec _ ⟨j + 1, by show (j : Int) + 1 = _; omega, by omega, ?_⟩ hz')) (fun c3 => gd_let (gd_let (hrec _ ⟨j + 1, by show (j : Int) + 1 = _; omega, by omega, ?_⟩ hz'))))))
    · show s.1 = gsum _ j + (if ν 54 j = who then dc ν j t else 0)
      rw [if_neg c2, e1]; omega
    · show s.1 = gsum _ j + (if ν 54 j = who then dc ν j t else 0)
      rw [if_pos (by omega), e1]; omega
    · show s.1 + 1 = gsum _ j + (if ν 54 j = who then dc ν j t else 0)
      rw [if_pos (by omega), e1]; omega
theorem d_X12_doubted_30 {who t : Int} (h : nR ν) (hcn : ∀ i : Int, 0 ≤ i → i < ν (-6957) 0 → ν 100 i = 0 ∨ ν 100 i = 1) (hd : nD ν 71) (ht : -1000 ≤ t ∧ t ≤ 1000) (hwho : 0 ≤ who ∧ who ≤ 5) : gd (g_X12_doubted_30 who t 0 0) T ν (bR ν who t) := by
  have h1 := h.1
  have h2 := h.2.1
  unfold g_X12_doubted_30
  refine gd_fx (fun (s : Int × Int) => ∃ j : Nat, s.2 = j ∧ j ≤ ν (-6957) 0 ∧ s.1 = gsum (fun i => if ν 96 i = who then dr ν i t else 0) j) (fun s => 40 - s.2.toNat) ⟨0, rfl, by omega, rfl⟩ (by show 40 - (0 : Int).toNat < 100000; omega) ?_
  intro rec s hI hrec
  obtain ⟨j, e2, hj, e1⟩ := hI
  unfold gB_X12_doubted_30 g_X12_doubted_66
  refine gd_get ?_
  rw [e2]
  refine gd_cb ⟨⟨by omega, by omega⟩, ⟨by omega, by omega⟩⟩ (fun c => ?_) (fun c => ?_)
  · rw [e1, show j = (ν (-6957) 0).toNat by omega]; exact gd_ret
  · have h01 := dr01 ν j t
    have hw1 := h.2.2 j (by omega) (by omega)
    have hz' : 40 - ((j : Int) + 1).toNat < 40 - s.2.toNat := by rw [e2]; omega
    refine gd_al ⟨by omega, by omega⟩ (gd_cb ⟨by rcases hw1 with g | g <;> omega, by omega⟩ (fun c2 => gd_let (gd_let (hrec _ ⟨j + 1, by show (j : Int) + 1 = _; omega, by omega, ?_⟩ hz'))) (fun c2 => gd_rd (d_X12_isAgainst h (hcn j (by omega) (by omega)) hd ⟨by omega, by omega⟩ ht) (gd_cz ⟨by omega, by omega⟩ (fun c3 => gd_let (gd_let (hrec _ ⟨j + 1, by show (j : Int) + 1 = _; omega, by omega, ?_⟩ hz'))) (fun c3 => gd_let (gd_let (hrec _ ⟨j + 1, by show (j : Int) + 1 = _; omega, by omega, ?_⟩ hz'))))))
    · show s.1 + 0 = gsum _ j + (if ν 96 j = who then dr ν j t else 0)
      rw [if_neg c2, e1]
    · show s.1 + 0 = gsum _ j + (if ν 96 j = who then dr ν j t else 0)
      rw [if_pos (by omega), e1]; omega
    · show s.1 + 1 = gsum _ j + (if ν 96 j = who then dr ν j t else 0)
      rw [if_pos (by omega), e1]; omega
end
