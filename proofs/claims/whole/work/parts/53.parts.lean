/-! PARTS -/
def pdf (W wt : Int → Int) (d s : Int) (n : Nat) : Int := gsum (fun t => if W t = 0 then (if s ≤ t + d then -wt t else wt t) else 0) n
def pab (x : Int) : Int := if 0 ≤ x then x else -x
def afG (W : Int → Int) : Nat → Int
  | 0 => 0
  | n + 1 => if afG W n = 0 then (if W n = 0 then 1 else 0) else 1
def prt (W wt : Int → Int) (d : Int) (top : Nat) : Int := if afG W (top + 1) = 0 then -1 else ldG (fun s => pab (pdf W wt d s (top + 1))) (top - 1) 2 1
theorem afG01 (W : Int → Int) : ∀ n, afG W n = 0 ∨ afG W n = 1 := by
  intro n
  cases n with
  | zero => exact Or.inl rfl
  | succ n =>
    show (if afG W n = 0 then (if W n = 0 then (1 : Int) else 0) else 1) = 0 ∨ (if afG W n = 0 then (if W n = 0 then (1 : Int) else 0) else 1) = 1
    split
    · split <;> omega
    · omega
theorem pdf_in {W wt : Int → Int} (d s : Int) : ∀ n : Nat, (∀ t : Int, 0 ≤ t → t < n → 0 ≤ wt t ∧ wt t ≤ 99) → -99 * n ≤ pdf W wt d s n ∧ pdf W wt d s n ≤ 99 * n := by
  intro n
  induction n with
  | zero => intro _; exact ⟨by show -99 * ((0 : Nat) : Int) ≤ 0; omega, by show (0 : Int) ≤ 99 * ((0 : Nat) : Int); omega⟩
  | succ n ih =>
    intro h
    have h1 := ih (fun t a b => h t a (by omega))
    have h2 := h n (by omega) (by omega)
    show -99 * ((n + 1 : Nat) : Int) ≤ pdf W wt d s n + (if W n = 0 then (if s ≤ n + d then -wt n else wt n) else 0) ∧ pdf W wt d s n + (if W n = 0 then (if s ≤ n + d then -wt n else wt n) else 0) ≤ 99 * ((n + 1 : Nat) : Int)
    split
    · split <;> omega
    · omega
theorem pdf_congr {W W' wt wt' : Int → Int} (d s : Int) (n : Nat) (hW : ∀ t : Int, 0 ≤ t → t < n → W t = W' t) (hw : ∀ t : Int, 0 ≤ t → t < n → wt t = wt' t) : pdf W wt d s n = pdf W' wt' d s n :=
  gsum_congr n (fun i hi => by show (if W i = 0 then _ else _) = (if W' i = 0 then _ else _); rw [hW i (by omega) (by omega), hw i (by omega) (by omega)])
theorem afG_congr {W W' : Int → Int} : ∀ n : Nat, (∀ t : Int, 0 ≤ t → t < n → W t = W' t) → afG W n = afG W' n := by
  intro n
  induction n with
  | zero => intro _; rfl
  | succ n ih =>
    intro h
    show (if afG W n = 0 then (if W n = 0 then (1 : Int) else 0) else 1) = (if afG W' n = 0 then (if W' n = 0 then (1 : Int) else 0) else 1)
    rw [ih (fun t a b => h t a (by omega)), h n (by omega) (by omega)]
theorem prt_congr {W W' wt wt' : Int → Int} (d : Int) (top : Nat) (hW : ∀ t : Int, 0 ≤ t → t ≤ top → W t = W' t) (hw : ∀ t : Int, 0 ≤ t → t ≤ top → wt t = wt' t) : prt W wt d top = prt W' wt' d top := by
  unfold prt
  rw [afG_congr (W := W) (W' := W') (top + 1) (fun t a b => hW t a (by omega))]
  rw [show (fun s => pab (pdf W wt d s (top + 1))) = (fun s => pab (pdf W' wt' d s (top + 1))) from funext (fun s => by rw [pdf_congr d s (top + 1) (fun t a b => hW t a (by omega)) (fun t a b => hw t a (by omega))])]
section
variable {T : gT} {ν : gN}
theorem d_X3_differenceBy {W : Int → Int} {s k : Int} (hs : -2147483648 ≤ s ∧ s ≤ 2147483647) (hk : 0 ≤ k ∧ k < 3) (hd : nD ν 3) (ht : 1 ≤ ν (-200) 0 ∧ ν (-200) 0 ≤ 40) (hw : ∀ t : Int, 0 ≤ t → t < 41 → 0 ≤ ν 6 t ∧ ν 6 t ≤ 99) (hf : ∀ t : Int, 0 ≤ t → t ≤ ν (-200) 0 → ν 60 t = if W t = 0 then 1 else 0) : gd (g_X3_differenceBy s k) T ν (pab (pdf W (ν 6) (ν 3 k) s ((ν (-200) 0).toNat + 1))) := by
  unfold g_X3_differenceBy g_X3_differenceBy_6
  refine gd_fx (fun (q : Int × Int) => ∃ j : Nat, q.2 = j ∧ j ≤ ν (-200) 0 + 1 ∧ q.1 = pdf W (ν 6) (ν 3 k) s j) (fun q => 50 - q.2.toNat) ⟨0, rfl, by omega, rfl⟩ (by show 50 - (0 : Int).toNat < 100000; omega) ?_
  intro rec q hI hrec
  obtain ⟨j, e2, hj, e1⟩ := hI
  have hb := pdf_in (W := W) (wt := ν 6) (ν 3 k) s j (fun t a b => hw t a (by omega))
  unfold gB_X3_differenceBy_6 g_X3_differenceBy_56 g_X3_differenceBy_59
  refine gd_get ?_
  rw [e2, e1]
  refine gd_cb ⟨⟨by omega, by omega⟩, ⟨by omega, by omega⟩⟩ (fun c => gd_ck ⟨by omega, by omega⟩ (gd_let ?_)) (fun c => gd_al ⟨by omega, by omega⟩ ?_)
  · rw [show j = (ν (-200) 0).toNat + 1 by omega]; exact gd_ret
  · rw [hf j (by omega) (by omega)]
    have hz' : 50 - ((j : Int) + 1).toNat < 50 - q.2.toNat := by rw [e2]; omega
    by_cases cw : W j = 0
    · rw [if_pos cw]
      refine gd_cz (by decide) (fun h => absurd h (by decide)) (fun _ => gd_rd (d_X8_breaks hk hs ⟨by omega, by omega⟩ (hd k hk.1 hk.2)) ?_)
      by_cases cb : s ≤ j + ν 3 k
      · rw [if_pos cb]
        refine gd_cz (by decide) (fun _ => gd_al ⟨by omega, by omega⟩ (gd_let (gd_let (hrec _ ⟨j + 1, by show (j : Int) + 1 = _; omega, by omega, ?_⟩ hz')))) (fun h => absurd rfl h)
        show _ = pdf W (ν 6) (ν 3 k) s j + (if W j = 0 then (if s ≤ j + ν 3 k then -ν 6 j else ν 6 j) else 0)
        rw [if_pos cw, if_pos cb]
      · rw [if_neg cb]
        refine gd_cz (by decide) (fun h => absurd h (by decide)) (fun _ => gd_al ⟨by omega, by omega⟩ (gd_let (gd_let (hrec _ ⟨j + 1, by show (j : Int) + 1 = _; omega, by omega, ?_⟩ hz'))))
        show _ = pdf W (ν 6) (ν 3 k) s j + (if W j = 0 then (if s ≤ j + ν 3 k then -ν 6 j else ν 6 j) else 0)
        rw [if_pos cw, if_neg cb]
    · rw [if_neg cw]
      refine gd_cz (by decide) (fun _ => gd_let (hrec _ ⟨j + 1, by show (j : Int) + 1 = _; omega, by omega, ?_⟩ hz')) (fun h => absurd rfl h)
      show pdf W (ν 6) (ν 3 k) s j = pdf W (ν 6) (ν 3 k) s j + (if W j = 0 then (if s ≤ j + ν 3 k then -ν 6 j else ν 6 j) else 0)
      rw [if_neg cw]; omega
theorem pab_in {x c : Int} (h : -c ≤ x ∧ x ≤ c) : 0 ≤ pab x ∧ pab x ≤ c := by
  unfold pab
  split <;> omega
theorem s_X11_parts {k : Int} (h : nC ν) (hk0 : -2147483648 ≤ k ∧ k ≤ 2147483647) (hd : nD ν 3) (ht : 1 ≤ ν (-200) 0 ∧ ν (-200) 0 ≤ 40) (hw : ∀ t : Int, 0 ≤ t → t < 41 → 0 ≤ ν 6 t ∧ ν 6 t ≤ 99) : gv (g_X11_parts k) T ν (fun r ν' => r = (if 0 ≤ k ∧ k < 3 then prt (dC ν) (ν 6) (ν 3 k) (ν (-200) 0).toNat else -1) ∧ gfr [60] ν ν') := by
  unfold g_X11_parts
  refine gv_tz (k1 := gret 0) (k2 := gret 0) (d_X8_hasKind hk0) (fun hk => gv_e1 (gv_bd ?_)) (fun c => gv_e0 (gv_ret ⟨by rw [if_neg c], gfr.refl _ _⟩))
  simp only [if_pos hk]
  unfold g_X3_partingStep g_X3_partingStep_5
  refine gv_fx (fun (s : Int × Int) τ => ∃ j : Nat, s.2 = j ∧ j ≤ ν (-200) 0 + 1 ∧ s.1 = afG (dC ν) j ∧ gfr [60] ν τ ∧ ∀ t : Int, 0 ≤ t → t < j → τ 60 t = if dC ν t = 0 then 1 else 0) (fun s _ => 50 - s.2.toNat) ⟨0, rfl, by omega, rfl, gfr.refl _ _, fun t a b => by omega⟩ (by show 50 - (0 : Int).toNat < 100000; omega) ?_
  intro rec s τ hI hrec
  obtain ⟨j, e2, hj, e1, hf, hz⟩ := hI
  have hT : τ (-200) = ν (-200) := hf _ (by decide)
  have h01 := afG01 (dC ν) j
  have en : nC τ := by
    unfold nC
    rw [hf (-5300) (by decide), hf 59 (by decide), hf 58 (by decide), hf 55 (by decide), hf 56 (by decide), hf 57 (by decide)]; exact h
  have ed : nD τ 3 := by unfold nD; rw [hf 3 (by decide)]; exact hd
  have eW : dC τ = dC ν := by
    funext t
    unfold dC dc
    rw [hf (-5300) (by decide), hf 59 (by decide), hf 58 (by decide), hf 55 (by decide), hf 56 (by decide), hf 57 (by decide), hf 3 (by decide)]
  unfold gB_X3_partingStep_5 g_X3_partingStep_55
  refine gv_get ?_
  rw [e2, e1, hT]
  refine gv_cb ⟨⟨by omega, by omega⟩, ⟨by omega, by omega⟩⟩ (fun c => ?_) (fun c => ?_)
  · have ej : j = (ν (-200) 0).toNat + 1 := by omega
    subst ej
    have hz2 : ∀ t : Int, 0 ≤ t → t ≤ τ (-200) 0 → τ 60 t = if dC ν t = 0 then 1 else 0 := fun t a b => hz t a (by rw [hT] at b; omega)
    have hdf : ∀ s : Int, -2147483648 ≤ s ∧ s ≤ 2147483647 → gd (g_X3_differenceBy s k) T τ (pab (pdf (dC ν) (ν 6) (ν 3 k) s ((ν (-200) 0).toNat + 1))) := fun s hs => by
      have := d_X3_differenceBy (T := T) (W := dC ν) (s := s) hs hk ed (by rw [hT]; exact ht) (by rw [hf 6 (by decide)]; exact hw) hz2
      rw [hT, hf 6 (by decide), hf 3 (by decide)] at this
      exact this
    have hbd : ∀ s : Int, 0 ≤ pab (pdf (dC ν) (ν 6) (ν 3 k) s ((ν (-200) 0).toNat + 1)) ∧ pab (pdf (dC ν) (ν 6) (ν 3 k) s ((ν (-200) 0).toNat + 1)) ≤ 5000 := fun s => by
      have := pdf_in (W := dC ν) (wt := ν 6) (ν 3 k) s ((ν (-200) 0).toNat + 1) (fun t a b => hw t a (by omega))
      exact pab_in (by omega)
    refine gv_cz ⟨by omega, by omega⟩ (fun c2 => gv_rd (hdf 1 (by decide)) ?_) (fun c2 => gv_ret (gv_ret ⟨by unfold prt; rw [if_pos (by omega)], hf⟩))
    unfold prt
    simp only [if_neg c2]
    unfold g_X3_partingStep_83
    refine gv_fx (fun (s : Int × Int × Int) τ' => τ' = τ ∧ ∃ i : Nat, s.2.2 = i ∧ 2 ≤ i ∧ i ≤ ν (-200) 0 + 1 ∧ (1 ≤ s.1 ∧ s.1 < i) ∧ s.2.1 = pab (pdf (dC ν) (ν 6) (ν 3 k) s.1 ((ν (-200) 0).toNat + 1)) ∧ ldG (fun s => pab (pdf (dC ν) (ν 6) (ν 3 k) s ((ν (-200) 0).toNat + 1))) ((ν (-200) 0).toNat + 1 - i) i s.1 = ldG (fun s => pab (pdf (dC ν) (ν 6) (ν 3 k) s ((ν (-200) 0).toNat + 1))) ((ν (-200) 0).toNat - 1) 2 1) (fun s _ => 50 - s.2.2.toNat) ⟨rfl, 2, rfl, by omega, by omega, ⟨by show (1 : Int) ≤ 1; omega, by show (1 : Int) < 2; omega⟩, rfl, by rw [show (ν (-200) 0).toNat + 1 - 2 = (ν (-200) 0).toNat - 1 by omega]; rfl⟩ (by show 50 - (2 : Int).toNat < 100000; omega) ?_
    intro rec2 s2 τ' hI2 hrec2
    obtain ⟨rfl, i, f2, hi1, hi, hs, f0, f1⟩ := hI2
    unfold gB_X3_partingStep_83 g_X3_partingStep_117
    refine gv_get ?_
    rw [hT, f2]
    refine gv_cb ⟨⟨by omega, by omega⟩, ⟨by omega, by omega⟩⟩ (fun c3 => gv_ret (gv_ret ⟨?_, hf⟩)) (fun c3 => gv_rd (hdf i (by omega)) ?_)
    · rw [show (ν (-200) 0).toNat + 1 - i = 0 by omega] at f1
      exact f1
    · have b1 := hbd i
      have b2 := hbd s2.1
      obtain ⟨m, hm⟩ : ∃ m, (ν (-200) 0).toNat + 1 - i = m + 1 := ⟨(ν (-200) 0).toNat - i, by omega⟩
      have hm2 : (ν (-200) 0).toNat + 1 - (i + 1) = m := by omega
      rw [hm] at f1
      replace f1 : ldG (fun s => pab (pdf (dC ν) (ν 6) (ν 3 k) s ((ν (-200) 0).toNat + 1))) m (i + 1) (if pab (pdf (dC ν) (ν 6) (ν 3 k) i ((ν (-200) 0).toNat + 1)) < pab (pdf (dC ν) (ν 6) (ν 3 k) s2.1 ((ν (-200) 0).toNat + 1)) then (i : Int) else s2.1) = _ := f1
      rw [f0]
      have hz' : 50 - ((i : Int) + 1).toNat < 50 - s2.2.2.toNat := by rw [f2]; omega
      refine gv_cb ⟨⟨by omega, by omega⟩, ⟨by omega, by omega⟩⟩ (fun c4 => gv_let (hrec2 _ _ ⟨rfl, i + 1, by show (i : Int) + 1 = _; omega, by omega, by omega, ⟨hs.1, by show s2.1 < ((i + 1 : Nat) : Int); omega⟩, rfl, ?_⟩ hz')) (fun c4 => gv_let (hrec2 _ _ ⟨rfl, i + 1, by show (i : Int) + 1 = _; omega, by omega, by omega, ⟨by show 1 ≤ (i : Int); omega, by show (i : Int) < ((i + 1 : Nat) : Int); omega⟩, rfl, ?_⟩ hz'))
      · rw [hm2]
        rw [if_neg (by omega)] at f1
        exact f1
      · rw [hm2]
        rw [if_pos (by omega)] at f1
        exact f1
  · have hv := dC40 h j
    have hrd : gd (g_X3_wrongAt j) T τ (dC ν j) := by
      have := d_X3_wrongAt (T := T) (t := j) en ed ⟨by omega, by omega⟩
      rw [eW] at this
      exact this
    refine gv_rd hrd (gv_ck ⟨by omega, by omega⟩ (gv_let ?_))
    have hz' : 50 - ((j : Int) + 1).toNat < 50 - s.2.toNat := by rw [e2]; omega
    have ea : afG (dC ν) (j + 1) = if afG (dC ν) j = 0 then (if dC ν j = 0 then (1 : Int) else 0) else 1 := rfl
    have hw01 : (if ¬dC ν j = 0 then (0 : Int) else 1) = if dC ν j = 0 then 1 else 0 := by
      by_cases cw : dC ν j = 0
      · rw [if_pos cw, if_neg (fun h => h cw)]
      · rw [if_neg cw, if_pos cw]
    rw [hw01]
    have hzn : ∀ t : Int, 0 ≤ t → t < ((j + 1 : Nat) : Int) → gup τ 60 j (if dC ν j = 0 then 1 else 0) 60 t = if dC ν t = 0 then 1 else 0 := fun t a b => by
      rw [gup_same]
      by_cases e : t = j
      · rw [if_pos e, e]
      · rw [if_neg e]; exact hz t a (by omega)
    refine gv_ck (by split <;> omega) (gv_as ⟨by omega, by omega⟩ ?_)
    refine gv_cz ⟨by omega, by omega⟩ (fun c2 => gv_let (hrec _ _ ⟨j + 1, by show (j : Int) + 1 = _; omega, by omega, ?_, hf.up (by decide), hzn⟩ hz')) (fun c2 => gv_al ⟨by omega, by omega⟩ ?_)
    · show (1 : Int) = _
      rw [ea, if_neg c2]
    · rw [hzn j (by omega) (by omega)]
      refine gv_cz (by split <;> decide) (fun c3 => gv_let (hrec _ _ ⟨j + 1, by show (j : Int) + 1 = _; omega, by omega, ?_, hf.up (by decide), hzn⟩ hz')) (fun c3 => gv_let (hrec _ _ ⟨j + 1, by show (j : Int) + 1 = _; omega, by omega, ?_, hf.up (by decide), hzn⟩ hz'))
      · show (0 : Int) = _
        rw [ea, if_pos (by omega), c3]
      · show (1 : Int) = _
        rw [ea, if_pos (by omega)]
        by_cases cw : dC ν j = 0
        · rw [if_pos cw]
        · rw [if_neg cw] at c3; exact absurd rfl c3
theorem d_X12_parts_25 {k : Int} (h : nR ν) (hcn : ∀ i : Int, 0 ≤ i → i < ν (-6957) 0 → ν 100 i = 0 ∨ ν 100 i = 1) (hk : 0 ≤ k ∧ k < 3) (hd : nD ν 71) (ht : 1 ≤ ν (-6903) 0 ∧ ν (-6903) 0 ≤ 40) (hw : ∀ t : Int, 0 ≤ t → t < 41 → 0 ≤ ν 74 t ∧ ν 74 t ≤ 99) : gd (g_X12_parts_25 k (-1) 0 1) T ν (prt (dR ν) (ν 74) (ν 71 k) (ν (-6903) 0).toNat) := by
  unfold g_X12_parts_25
  have hbd : ∀ s : Int, 0 ≤ pab (pdf (dR ν) (ν 74) (ν 71 k) s ((ν (-6903) 0).toNat + 1)) ∧ pab (pdf (dR ν) (ν 74) (ν 71 k) s ((ν (-6903) 0).toNat + 1)) ≤ 5000 := fun s => by
    have := pdf_in (W := dR ν) (wt := ν 74) (ν 71 k) s ((ν (-6903) 0).toNat + 1) (fun t a b => hw t a (by omega))
    exact pab_in (by omega)
  refine gd_fx (fun (s : Int × Int × Int) => ∃ i : Nat, s.2.2 = i ∧ 1 ≤ i ∧ i ≤ ν (-6903) 0 + 1 ∧ ((s.1 = -1 ∧ (i = 1 ∨ afG (dR ν) ((ν (-6903) 0).toNat + 1) = 0)) ∨ (2 ≤ i ∧ (1 ≤ s.1 ∧ s.1 < i) ∧ afG (dR ν) ((ν (-6903) 0).toNat + 1) ≠ 0 ∧ s.2.1 = pab (pdf (dR ν) (ν 74) (ν 71 k) s.1 ((ν (-6903) 0).toNat + 1)) ∧ ldG (fun s => pab (pdf (dR ν) (ν 74) (ν 71 k) s ((ν (-6903) 0).toNat + 1))) ((ν (-6903) 0).toNat + 1 - i) i s.1 = ldG (fun s => pab (pdf (dR ν) (ν 74) (ν 71 k) s ((ν (-6903) 0).toNat + 1))) ((ν (-6903) 0).toNat - 1) 2 1))) (fun s => 50 - s.2.2.toNat) ⟨1, rfl, by omega, by omega, Or.inl ⟨rfl, Or.inl rfl⟩⟩ (by show 50 - (1 : Int).toNat < 100000; omega) ?_
  intro rec s hI hrec
  obtain ⟨i, f2, hi1, hi, hs⟩ := hI
  unfold gB_X12_parts_25
  refine gd_get ?_
  rw [f2]
  refine gd_cb ⟨⟨by omega, by omega⟩, ⟨by omega, by omega⟩⟩ (fun c3 => ?_) (fun c3 => ?_)
  · unfold prt
    rcases hs with ⟨hs1, hs2⟩ | ⟨hs1, hs2, hs3, hs4, hs5⟩
    · rw [if_pos (by omega), hs1]; exact gd_ret
    · rw [if_neg hs3, ← hs5, show (ν (-6903) 0).toNat + 1 - i = 0 by omega]; exact gd_ret
  · unfold g_X12_parts_43
    have hs1 : -1 ≤ s.1 ∧ s.1 ≤ 100 := by rcases hs with g | g <;> omega
    refine gd_fx (fun (q : Int × Int × Int) => ∃ j : Nat, q.2.2 = j ∧ j ≤ ν (-6903) 0 + 1 ∧ q.1 = pdf (dR ν) (ν 74) (ν 71 k) i j ∧ q.2.1 = afG (dR ν) j) (fun q => 50 - q.2.2.toNat) ⟨0, rfl, by omega, rfl, rfl⟩ (by show 50 - (0 : Int).toNat < 100000; omega) ?_
    intro rec2 q hI2 hrec2
    obtain ⟨j, e2, hj, e1, ea⟩ := hI2
    have hb := pdf_in (W := dR ν) (wt := ν 74) (ν 71 k) i j (fun t a b => hw t a (by omega))
    unfold gB_X12_parts_43 g_X12_parts_103 g_X12_parts_100 g_X12_parts_149 g_X12_parts_143
    unfold g_X12_parts_149
    refine gd_get ?_
    rw [e2, e1, ea]
    have h01 := afG01 (dR ν) j
    refine gd_cb ⟨⟨by omega, by omega⟩, ⟨by omega, by omega⟩⟩ (fun c => gd_ck ⟨by omega, by omega⟩ (gd_let ?_)) (fun c => gd_rd (d_X12_doubtOf h hcn hd ⟨by omega, by omega⟩) ?_)
    · have ej : j = (ν (-6903) 0).toNat + 1 := by omega
      subst ej
      have b1 := hbd i
      have hz' : 50 - ((i : Int) + 1).toNat < 50 - s.2.2.toNat := by rw [f2]; omega
      have epab : (if 0 ≤ pdf (dR ν) (ν 74) (ν 71 k) i ((ν (-6903) 0).toNat + 1) then pdf (dR ν) (ν 74) (ν 71 k) i ((ν (-6903) 0).toNat + 1) else -pdf (dR ν) (ν 74) (ν 71 k) i ((ν (-6903) 0).toNat + 1)) = pab (pdf (dR ν) (ν 74) (ν 71 k) i ((ν (-6903) 0).toNat + 1)) := rfl
      rw [epab]
      refine gd_cz ⟨by omega, by omega⟩ (fun c2 => gd_let (hrec _ ⟨i + 1, by show (i : Int) + 1 = _; omega, by omega, by omega, ?_⟩ hz')) (fun c2 => ?_)
      · rcases hs with ⟨g1, g2⟩ | ⟨g1, g2, g3, g4⟩
        · exact Or.inl ⟨g1, Or.inr c2⟩
        · exact absurd c2 g3
      · rcases hs with ⟨g1, g2⟩ | ⟨g1, g2, g3, g4, g5⟩
        · rw [g1]
          have hi2 : i = 1 := by omega
          subst hi2
          refine gd_cb (by decide) (fun _ => gd_let (hrec _ ⟨2, rfl, by omega, by omega, Or.inr ⟨by omega, ⟨by show (1 : Int) ≤ 1; omega, by show (1 : Int) < 2; omega⟩, c2, rfl, by rw [show (ν (-6903) 0).toNat + 1 - 2 = (ν (-6903) 0).toNat - 1 by omega]; rfl⟩⟩ hz')) (fun h => absurd rfl h)
        · refine gd_cb ⟨⟨by omega, by omega⟩, ⟨by omega, by omega⟩⟩ (fun h => by omega) (fun _ => ?_)
          have b2 := hbd s.1
          obtain ⟨m, hm⟩ : ∃ m, (ν (-6903) 0).toNat + 1 - i = m + 1 := ⟨(ν (-6903) 0).toNat - i, by omega⟩
          have hm2 : (ν (-6903) 0).toNat + 1 - (i + 1) = m := by omega
          rw [hm] at g5
          replace g5 : ldG (fun s => pab (pdf (dR ν) (ν 74) (ν 71 k) s ((ν (-6903) 0).toNat + 1))) m (i + 1) (if pab (pdf (dR ν) (ν 74) (ν 71 k) i ((ν (-6903) 0).toNat + 1)) < pab (pdf (dR ν) (ν 74) (ν 71 k) s.1 ((ν (-6903) 0).toNat + 1)) then (i : Int) else s.1) = _ := g5
          rw [g4]
          refine gd_cb ⟨⟨by omega, by omega⟩, ⟨by omega, by omega⟩⟩ (fun c4 => gd_let (hrec _ ⟨i + 1, by show (i : Int) + 1 = _; omega, by omega, by omega, Or.inr ⟨by omega, ⟨by show 1 ≤ (i : Int); omega, by show (i : Int) < ((i + 1 : Nat) : Int); omega⟩, g3, rfl, ?_⟩⟩ hz')) (fun c4 => gd_let (hrec _ ⟨i + 1, by show (i : Int) + 1 = _; omega, by omega, by omega, Or.inr ⟨by omega, ⟨g2.1, by show s.1 < ((i + 1 : Nat) : Int); omega⟩, g3, rfl, ?_⟩⟩ hz'))
          · rw [hm2]
            rw [if_pos (by omega)] at g5
            exact g5
          · rw [hm2]
            rw [if_neg (by omega)] at g5
            exact g5
    · have hv := dR40 h j
      have hz' : 50 - ((j : Int) + 1).toNat < 50 - q.2.2.toNat := by rw [e2]; omega
      have ea2 : afG (dR ν) (j + 1) = if afG (dR ν) j = 0 then (if dR ν j = 0 then (1 : Int) else 0) else 1 := rfl
      refine gd_cz ⟨by omega, by omega⟩ (fun c2 => gd_ck ⟨by omega, by omega⟩ (gd_rd (d_X12_breaks hk ⟨by omega, by omega⟩ ⟨by omega, by omega⟩ (hd k hk.1 hk.2)) ?_)) (fun c2 => gd_let (hrec2 _ ⟨j + 1, by show (j : Int) + 1 = _; omega, by omega, ?_, ?_⟩ hz'))
      · have cw : dR ν j = 0 := by omega
        have ea3 : (1 : Int) = afG (dR ν) (j + 1) := by rw [ea2, if_pos cw]; split <;> rfl
        by_cases cb : (i : Int) ≤ j + ν 71 k
        · rw [if_pos cb]
          refine gd_cz (by decide) (fun _ => gd_al ⟨by omega, by omega⟩ (gd_let (gd_let (hrec2 _ ⟨j + 1, by show (j : Int) + 1 = _; omega, by omega, ?_, ea3⟩ hz')))) (fun h => absurd rfl h)
          show _ = pdf (dR ν) (ν 74) (ν 71 k) i j + (if dR ν j = 0 then (if (i : Int) ≤ j + ν 71 k then -ν 74 j else ν 74 j) else 0)
          rw [if_pos cw, if_pos cb]
        · rw [if_neg cb]
          refine gd_cz (by decide) (fun h => absurd h (by decide)) (fun _ => gd_al ⟨by omega, by omega⟩ (gd_let (gd_let (hrec2 _ ⟨j + 1, by show (j : Int) + 1 = _; omega, by omega, ?_, ea3⟩ hz'))))
          show _ = pdf (dR ν) (ν 74) (ν 71 k) i j + (if dR ν j = 0 then (if (i : Int) ≤ j + ν 71 k then -ν 74 j else ν 74 j) else 0)
          rw [if_pos cw, if_neg cb]
      · show pdf (dR ν) (ν 74) (ν 71 k) i j = pdf (dR ν) (ν 74) (ν 71 k) i j + (if dR ν j = 0 then (if (i : Int) ≤ j + ν 71 k then -ν 74 j else ν 74 j) else 0)
        rw [if_neg (by omega)]; omega
      · show afG (dR ν) j = _
        rw [ea2, if_neg (show ¬ dR ν j = 0 by omega)]
        split
        · assumption
        · omega
end
