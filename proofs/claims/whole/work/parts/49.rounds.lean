/-! ROUNDS -/
def rk (b : Int) : Nat → Int → Int
  | 0 => fun _ => 0
  | r + 1 => fun k => gsum (fun i => rk b r (k - i) + 1) ((min k b).toNat + 1) - 1
theorem gsum_nonneg {f : Int → Int} : ∀ n : Nat, (∀ i : Nat, i < n → 0 ≤ f i) → 0 ≤ gsum f n := by
  intro n
  induction n with
  | zero => intro _; exact Int.le_refl _
  | succ n ih =>
    intro h
    have h1 := ih (fun i hi => h i (by omega))
    have h2 := h n (by omega)
    show 0 ≤ gsum f n + f n
    omega
theorem gsum_le {f g : Int → Int} : ∀ n : Nat, (∀ i : Nat, i < n → f i ≤ g i) → gsum f n ≤ gsum g n := by
  intro n
  induction n with
  | zero => intro _; exact Int.le_refl _
  | succ n ih =>
    intro h
    have h1 := ih (fun i hi => h i (by omega))
    have h2 := h n (by omega)
    show gsum f n + f n ≤ gsum g n + g n
    omega
theorem gsum_congr {f g : Int → Int} : ∀ n : Nat, (∀ i : Nat, i < n → f i = g i) → gsum f n = gsum g n := by
  intro n
  induction n with
  | zero => intro _; rfl
  | succ n ih =>
    intro h
    show gsum f n + f n = gsum g n + g n
    rw [ih (fun i hi => h i (by omega)), h n (by omega)]
theorem gsum_more {f : Int → Int} {n m : Nat} (h : n ≤ m) (hf : ∀ i : Nat, i < m → 0 ≤ f i) : gsum f n ≤ gsum f m := by
  induction m with
  | zero => rw [show n = 0 by omega]; exact Int.le_refl _
  | succ m ih =>
    by_cases e : n = m + 1
    · rw [e]; exact Int.le_refl _
    · have h1 := ih (by omega) (fun i hi => hf i (by omega))
      have h2 := hf m (by omega)
      show gsum f n ≤ gsum f m + f m
      omega
theorem rk_nonneg {b : Int} (hb : 0 ≤ b) : ∀ (r : Nat) (k : Int), 0 ≤ k → 0 ≤ rk b r k := by
  intro r
  induction r with
  | zero => intro k _; exact Int.le_refl _
  | succ r ih =>
    intro k hk
    show 0 ≤ gsum (fun i => rk b r (k - i) + 1) ((min k b).toNat + 1) - 1
    have h1 : gsum (fun i => rk b r (k - i) + 1) 1 ≤ gsum (fun i => rk b r (k - i) + 1) ((min k b).toNat + 1) := gsum_more (by omega) (fun i hi => by have := ih (k - i) (by omega); show 0 ≤ rk b r (k - i) + 1; omega)
    have h2 : gsum (fun i => rk b r (k - i) + 1) 1 = rk b r k + 1 := by show 0 + (rk b r (k - ((0 : Nat) : Int)) + 1) = _; rw [Int.zero_add, show k - ((0 : Nat) : Int) = k by omega]
    have := ih k hk
    omega
theorem rk_mono {b : Int} (hb : 0 ≤ b) : ∀ (r : Nat) (k k' : Int), 0 ≤ k → k ≤ k' → rk b r k ≤ rk b r k' := by
  intro r
  induction r with
  | zero => intro k k' _ _; exact Int.le_refl _
  | succ r ih =>
    intro k k' hk hkk
    show gsum (fun i => rk b r (k - i) + 1) ((min k b).toNat + 1) - 1 ≤ gsum (fun i => rk b r (k' - i) + 1) ((min k' b).toNat + 1) - 1
    have h1 : gsum (fun i => rk b r (k - i) + 1) ((min k b).toNat + 1) ≤ gsum (fun i => rk b r (k' - i) + 1) ((min k b).toNat + 1) := gsum_le _ (fun i hi => by have := ih (k - i) (k' - i) (by omega) (by omega); show rk b r (k - i) + 1 ≤ rk b r (k' - i) + 1; omega)
    have h2 : gsum (fun i => rk b r (k' - i) + 1) ((min k b).toNat + 1) ≤ gsum (fun i => rk b r (k' - i) + 1) ((min k' b).toNat + 1) := gsum_more (by omega) (fun i hi => by have := rk_nonneg hb r (k' - i) (by omega); show 0 ≤ rk b r (k' - i) + 1; omega)
    omega
theorem rk_grows {b n : Int} (hb : 1 ≤ b) (hn : 1 ≤ n) : ∀ r : Nat, (r : Int) ≤ rk b r n := by
  intro r
  induction r with
  | zero => exact Int.le_refl _
  | succ r ih =>
    have h1 : gsum (fun i => rk b r (n - i) + 1) 2 ≤ gsum (fun i => rk b r (n - i) + 1) ((min n b).toNat + 1) := gsum_more (by omega) (fun i hi => by have := rk_nonneg (by omega : 0 ≤ b) r (n - i) (by omega); show 0 ≤ rk b r (n - i) + 1; omega)
    have h2 : gsum (fun i => rk b r (n - i) + 1) 2 = 0 + (rk b r (n - ((0 : Nat) : Int)) + 1) + (rk b r (n - ((1 : Nat) : Int)) + 1) := rfl
    rw [show n - ((0 : Nat) : Int) = n by omega] at h2
    have h3 := rk_nonneg (by omega : 0 ≤ b) r (n - ((1 : Nat) : Int)) (by omega)
    show ((r + 1 : Nat) : Int) ≤ gsum (fun i => rk b r (n - i) + 1) ((min n b).toNat + 1) - 1
    omega
theorem gsum_bound {f : Int → Int} {c : Int} : ∀ n : Nat, (∀ i : Nat, i < n → f i ≤ c) → gsum f n ≤ c * n := by
  intro n
  induction n with
  | zero => intro _; show (0 : Int) ≤ c * ((0 : Nat) : Int); omega
  | succ n ih =>
    intro h
    have h1 := ih (fun i hi => h i (by omega))
    have h2 := h n (by omega)
    show gsum f n + f n ≤ c * ((n + 1 : Nat) : Int)
    rw [show ((n + 1 : Nat) : Int) = (n : Int) + 1 by omega, Int.mul_add, Int.mul_one]
    omega
theorem rk_step {b n t : Int} (hb : 0 ≤ b ∧ b ≤ 4) (hn : 0 ≤ n) {r : Nat} (h : rk b r n ≤ t) (ht : 0 ≤ t) : rk b (r + 1) n ≤ 5 * (t + 1) := by
  show gsum (fun i => rk b r (n - i) + 1) ((min n b).toNat + 1) - 1 ≤ _
  have h1 : gsum (fun i => rk b r (n - i) + 1) ((min n b).toNat + 1) ≤ (t + 1) * (((min n b).toNat + 1 : Nat) : Int) := gsum_bound _ (fun i hi => by have := rk_mono hb.1 r (n - i) n (by omega) (by omega); show rk b r (n - i) + 1 ≤ t + 1; omega)
  have h2 : (t + 1) * (((min n b).toNat + 1 : Nat) : Int) ≤ (t + 1) * 5 := Int.mul_le_mul_of_nonneg_left (by omega) (by omega)
  omega
/-- the rounds: the first number with which so many are parted -/
def rkR (top b n r : Int) : Prop := 0 ≤ r ∧ top ≤ rk b r.toNat n ∧ ∀ q : Nat, q < r.toNat → rk b q n < top
theorem rkR_one {top b n r r' : Int} (h : rkR top b n r) (h' : rkR top b n r') : r = r' := by
  obtain ⟨h1, h2, h3⟩ := h
  obtain ⟨g1, g2, g3⟩ := h'
  have c1 : ¬ r.toNat < r'.toNat := fun c => by have := g3 _ c; omega
  have c2 : ¬ r'.toNat < r.toNat := fun c => by have := h3 _ c; omega
  omega
theorem s_X12_rounds_49 {T : gT} {ν : gN} {n b : Int} (hn : 1 ≤ n ∧ n ≤ 9) (hb : 1 ≤ b ∧ b ≤ 4) (ht : 1 ≤ ν (-6903) 0 ∧ ν (-6903) 0 ≤ 40) (h0 : ∀ k : Int, 0 ≤ k → k < 10 → ν 94 k = 0) : gv (g_X12_rounds_49 n b 0) T ν (fun r ν' => rkR (ν (-6903) 0) b n r ∧ r ≤ 40 ∧ gfr [94] ν ν') := by
  unfold g_X12_rounds_49
  refine gv_fx (fun (x3 : Int) τ => ∃ r : Nat, x3 = r ∧ gfr [94] ν τ ∧ (∀ k : Int, 0 ≤ k → k < 10 → τ 94 (10 * r + k) = rk b r k) ∧ (∀ q : Nat, q < r → rk b q n < ν (-6903) 0)) (fun x3 _ => 41 - x3.toNat) ⟨0, rfl, gfr.refl _ _, fun k h1 h2 => by rw [show 10 * ((0 : Nat) : Int) + k = k by omega]; exact h0 k h1 h2, fun q hq => by omega⟩ (by omega) ?_
  intro rec x3 τ hI hrec
  obtain ⟨r, rfl, hf, hr, hq⟩ := hI
  have hT : τ (-6903) = ν (-6903) := hf _ (by decide)
  have hg := rk_grows hb.1 hn.1 r
  have hr40 : r ≤ 40 := by
    apply Classical.byContradiction
    intro hc
    have h1 := hq 40 (by omega)
    have h2 := rk_grows hb.1 hn.1 40
    omega
  have hup : rk b r n ≤ 1000 := by
    rcases Nat.eq_zero_or_pos r with e | e
    · rw [e]; show (0 : Int) ≤ 1000; omega
    · obtain ⟨q, rfl⟩ := Nat.exists_eq_succ_of_ne_zero (show r ≠ 0 by omega)
      have h1 := hq q (by omega)
      have h2 := rk_step (b := b) (n := n) (t := 40) (r := q) ⟨by omega, by omega⟩ (by omega) (by omega) (by omega)
      show rk b (q + 1) n ≤ 1000
      omega
  unfold gB_X12_rounds_49
  refine gv_al ⟨by omega, by omega⟩ ?_
  refine gv_get ?_
  rw [hT, hr n (by omega) (by omega)]
  refine gv_cb ⟨⟨by omega, by omega⟩, ⟨by omega, by omega⟩⟩ (fun hc => gv_ret ⟨⟨by omega, by rw [Int.toNat_natCast]; exact hc, by rw [Int.toNat_natCast]; exact hq⟩, by omega, hf⟩) (fun hc => ?_)
  have hr39 : r < 40 := by omega
  refine gv_let ?_
  unfold g_X12_rounds_73
  refine gv_fx (fun (x4 : Int) τ' => ∃ j : Nat, x4 = j ∧ j ≤ 10 ∧ gfr [94] ν τ' ∧ (∀ k : Int, 0 ≤ k → k < 10 → τ' 94 (10 * r + k) = rk b r k) ∧ (∀ k : Int, 0 ≤ k → k < j → τ' 94 (10 * (r + 1) + k) = rk b (r + 1) k)) (fun x4 _ => 10 - x4.toNat) ⟨0, rfl, by omega, hf, hr, fun k h1 h2 => by omega⟩ (by omega) ?_
  intro rec2 x4 τ' hI2 hrec2
  obtain ⟨j, rfl, hj, hf', hr', hs'⟩ := hI2
  unfold gB_X12_rounds_73
  refine gv_cb ⟨⟨by omega, by omega⟩, ⟨by omega, by omega⟩⟩ (fun hc2 => ?_) (fun hc2 => ?_)
  · have ej : j = 10 := by omega
    subst ej
    refine hrec _ _ ⟨r + 1, by omega, hf', fun k h1 h2 => by rw [show 10 * ((r + 1 : Nat) : Int) + k = 10 * (r + 1) + k by omega]; exact hs' k h1 h2, fun q hq2 => ?_⟩ (by omega)
    by_cases e : q = r
    · rw [e]; omega
    · exact hq q (by omega)
  · refine gv_ck ⟨⟨by omega, by omega⟩, ⟨by omega, by omega⟩⟩ (gv_let ?_)
    have hw : (if b ≤ (j : Int) then b else (j : Int)) = min (j : Int) b := by
      by_cases e : b ≤ (j : Int)
      · rw [if_pos e]; omega
      · rw [if_neg e]; omega
    rw [hw]
    unfold g_X12_rounds_100
    refine gv_fx (fun (s : Int × Int) τ'' => τ'' = τ' ∧ ∃ i : Nat, s.2 = i ∧ i ≤ (min (j : Int) b).toNat + 1 ∧ s.1 = gsum (fun i => rk b r (j - i) + 1) i - 1) (fun s _ => 20 - s.2.toNat) ⟨rfl, 0, rfl, by omega, rfl⟩ (by show 20 - (0 : Int).toNat < 100000; omega) ?_
    intro rec3 s τ'' hI3 hrec3
    obtain ⟨rfl, i, e2, hi, e1⟩ := hI3
    unfold gB_X12_rounds_100
    rw [e2]
    refine gv_cb ⟨⟨by omega, by omega⟩, ⟨by omega, by omega⟩⟩ (fun hc3 => ?_) (fun hc3 => ?_)
    · refine gv_as ⟨by omega, by omega⟩ (gv_let ?_)
      have ei : i = (min (j : Int) b).toNat + 1 := by omega
      refine hrec2 _ _ ⟨j + 1, by omega, by omega, hf'.up (by decide), fun k h1 h2 => ?_, fun k h1 h2 => ?_⟩ (by omega)
      · rw [gup_same, if_neg (by omega)]; exact hr' k h1 h2
      · rw [gup_same]
        by_cases e : k = j
        · rw [if_pos (by omega), e1, ei, e]; rfl
        · rw [if_neg (by omega)]; exact hs' k h1 (by omega)
    · refine gv_al ⟨by omega, by omega⟩ (gv_let (gv_let ?_))
      refine hrec3 _ _ ⟨rfl, i + 1, by show (i : Int) + 1 = _; omega, by omega, ?_⟩ (by show 20 - ((i : Int) + 1).toNat < 20 - s.2.toNat; rw [e2]; omega)
      show s.1 + (τ'' 94 _ + 1) = gsum (fun i => rk b r (j - i) + 1) i + (rk b r (j - i) + 1) - 1
      rw [show 10 * ((r : Int) + 1 - 1) + (j : Int) - (i : Int) = 10 * r + ((j : Int) - i) by omega, hr' _ (by omega) (by omega), e1]
      omega
theorem d_X12_isIn {T : gT} {ν : gN} {x a b : Int} (h : (-2147483648 ≤ x ∧ x ≤ 2147483647)) (ha : -2147483648 ≤ a ∧ a ≤ 2147483647) (hb : -2147483648 ≤ b ∧ b ≤ 2147483647) : gd (g_X12_isIn x a b) T ν (if a ≤ x ∧ x ≤ b then 1 else 0) := by
  unfold g_X12_isIn
  refine gd_cb ⟨h, ha⟩ (fun hc => ?_) (fun hc => gd_cb ⟨h, hb⟩ (fun hc2 => ?_) (fun hc2 => ?_))
  · rw [if_neg (by omega)]; exact gd_ret
  · rw [if_neg (by omega)]; exact gd_ret
  · rw [if_pos (by omega)]; exact gd_ret
theorem s_X12_rounds {T : gT} {ν : gN} {n b : Int} (hn : -2147483648 ≤ n ∧ n ≤ 2147483647) (hb : -2147483648 ≤ b ∧ b ≤ 2147483647) (ht : 1 ≤ ν (-6903) 0 ∧ ν (-6903) 0 ≤ 40) : gv (g_X12_rounds n b) T ν (fun r ν' => (if (1 ≤ n ∧ n ≤ 9) ∧ (1 ≤ b ∧ b ≤ 4) then rkR (ν (-6903) 0) b n r ∧ r ≤ 40 else r = -1) ∧ gfr [94, -6902] ν ν') := by
  unfold g_X12_rounds
  refine gv_put ?_
  refine gv_rd (d_X12_isIn hn (by decide) (by decide)) ?_
  by_cases c1 : 1 ≤ n ∧ n ≤ 9
  · rw [if_pos c1]
    refine gv_cz (by decide) (fun h => absurd h (by decide)) (fun _ => ?_)
    refine gv_rd (d_X12_isIn hb (by decide) (by decide)) ?_
    by_cases c2 : 1 ≤ b ∧ b ≤ 4
    · rw [if_pos c2]
      refine gv_cz (by decide) (fun _ => ?_) (fun h => absurd (fun h2 => by cases h2) h)
      simp only [if_pos (show (1 ≤ n ∧ n ≤ 9) ∧ (1 ≤ b ∧ b ≤ 4) from ⟨c1, c2⟩)]
      unfold g_X12_rounds_28
      refine gv_fx (fun (x3 : Int) τ => ∃ j : Nat, x3 = j ∧ j ≤ 10 ∧ gfr [94, -6902] ν τ ∧ ∀ k : Int, 0 ≤ k → k < j → τ 94 k = 0) (fun x3 _ => 10 - x3.toNat) ⟨0, rfl, by omega, (gfr.refl _ _).up (by decide), fun k h1 h2 => by omega⟩ (by omega) ?_
      intro rec x3 τ hI hrec
      obtain ⟨j, rfl, hj, hf, hz⟩ := hI
      unfold gB_X12_rounds_28
      refine gv_cb ⟨⟨by omega, by omega⟩, ⟨by omega, by omega⟩⟩ (fun hc => ?_) (fun hc => ?_)
      · have hT : τ (-6903) = ν (-6903) := hf _ (by decide)
        refine (s_X12_rounds_49 c1 c2 (by rw [hT]; exact ht) (fun k h1 h2 => hz k h1 (by omega))).mono (fun r ν' h => ?_)
        rw [hT] at h
        exact ⟨⟨h.1, h.2.1⟩, hf.trans (h.2.2.mono (by decide))⟩
      · refine gv_as ⟨by omega, by omega⟩ (gv_let ?_)
        refine hrec _ _ ⟨j + 1, by omega, by omega, hf.up (by decide), fun k h1 h2 => ?_⟩ (by omega)
        rw [gup_same]
        by_cases e : k = j
        · rw [if_pos e]
        · rw [if_neg e]; exact hz k h1 (by omega)
    · rw [if_neg c2]
      refine gv_cz (by decide) (fun h => absurd rfl h) (fun _ => gv_ret ?_)
      rw [if_neg (fun h => c2 h.2)]
      exact ⟨rfl, (gfr.refl _ _).up (by decide)⟩
  · rw [if_neg c1]
    refine gv_cz (by decide) (fun _ => gv_ret ?_) (fun h => absurd rfl h)
    rw [if_neg (fun h => c1 h.1)]
    exact ⟨rfl, (gfr.refl _ _).up (by decide)⟩
theorem d_X11_isWithin {T : gT} {ν : gN} {x b : Int} (h : -2147483648 ≤ x ∧ x ≤ 2147483647) (hb : -2147483648 ≤ b ∧ b ≤ 2147483647) : gd (g_X11_isWithin x b) T ν (if 0 ≤ x ∧ x ≤ b then 1 else 0) := by
  unfold g_X11_isWithin
  refine gd_cz h (fun hc => ?_) (fun hc => gd_cb ⟨h, hb⟩ (fun hc2 => ?_) (fun hc2 => ?_))
  · rw [if_neg (by omega)]; exact gd_ret
  · rw [if_neg (by omega)]; exact gd_ret
  · rw [if_pos (by omega)]; exact gd_ret
/-- what is parted after r rounds, cut at the top -/
def rkp (top b : Int) (r : Nat) (k : Int) : Int := min (rk b r k + 1) (top + 1)
theorem rk_zero {b : Int} (hb : 0 ≤ b) : ∀ r : Nat, rk b r 0 = 0 := by
  intro r
  induction r with
  | zero => rfl
  | succ r ih =>
    show gsum (fun i => rk b r (0 - i) + 1) ((min 0 b).toNat + 1) - 1 = 0
    rw [show (min 0 b).toNat = 0 by omega]
    show 0 + (rk b r (0 - ((0 : Nat) : Int)) + 1) - 1 = 0
    rw [show (0 : Int) - ((0 : Nat) : Int) = 0 by omega, ih]
    rfl
theorem gsum_min {f : Int → Int} {c : Int} (hc : 0 ≤ c) : ∀ n : Nat, (∀ i : Nat, i < n → 0 ≤ f i) → min (gsum (fun i => min (f i) c) n) c = min (gsum f n) c := by
  intro n
  induction n with
  | zero => intro _; rfl
  | succ n ih =>
    intro h
    have h1 := ih (fun i hi => h i (by omega))
    have h2 := h n (by omega)
    have h3 := gsum_nonneg n (f := f) (fun i hi => h i (by omega))
    have h4 := gsum_nonneg n (f := fun i => min (f i) c) (fun i hi => by have := h i (by omega); show 0 ≤ min (f i) c; omega)
    show min (gsum (fun i => min (f i) c) n + min (f n) c) c = min (gsum f n + f n) c
    omega
theorem rkp_step {top b : Int} (ht : 0 ≤ top) (hb : 0 ≤ b) (r : Nat) {k : Int} (hk : 0 ≤ k) : min (gsum (fun i => rkp top b r (k - i)) ((min k b).toNat + 1)) (top + 1) = rkp top b (r + 1) k := by
  have h := gsum_min (f := fun i => rk b r (k - i) + 1) (c := top + 1) (by omega) ((min k b).toNat + 1) (fun i hi => by have := rk_nonneg hb r (k - i) (by omega); show 0 ≤ rk b r (k - i) + 1; omega)
  show min (gsum (fun i => min (rk b r (k - i) + 1) (top + 1)) ((min k b).toNat + 1)) (top + 1) = min (gsum (fun i => rk b r (k - i) + 1) ((min k b).toNat + 1) - 1 + 1) (top + 1)
  rw [h]
  congr 1
  omega
theorem s_X11_addRound {T : gT} {ν : gN} {n b : Int} (hn : 1 ≤ n ∧ n ≤ 9) (hb : 1 ≤ b ∧ b ≤ 4) (ht : 1 ≤ ν (-200) 0 ∧ ν (-200) 0 ≤ 40) (r : Nat) (h0 : ∀ k : Int, 0 ≤ k → k ≤ n → ν 50 k = rkp (ν (-200) 0) b r k) : gv (g_X11_addRound n b) T ν (fun _ ν' => gfr [50] ν ν' ∧ ∀ k : Int, 0 ≤ k → k ≤ n → ν' 50 k = rkp (ν (-200) 0) b (r + 1) k) := by
  unfold g_X11_addRound g_X11_addRound_2
  refine gv_fx (fun (x3 : Int) τ => ∃ j : Nat, x3 = j ∧ j ≤ n ∧ gfr [50] ν τ ∧ (∀ k : Int, 0 ≤ k → k ≤ j → τ 50 k = rkp (ν (-200) 0) b r k) ∧ (∀ k : Int, j < k → k ≤ n → τ 50 k = rkp (ν (-200) 0) b (r + 1) k)) (fun x3 _ => x3.toNat) ⟨n.toNat, by omega, by omega, gfr.refl _ _, fun k h1 h2 => h0 k h1 (by omega), fun k h1 h2 => by omega⟩ (by omega) ?_
  intro rec x3 τ hI hrec
  obtain ⟨j, rfl, hj, hf, hr, hs⟩ := hI
  have hT : τ (-200) = ν (-200) := hf _ (by decide)
  unfold gB_X11_addRound_2
  refine gv_cb ⟨⟨by omega, by omega⟩, ⟨by omega, by omega⟩⟩ (fun hc => gv_ret ⟨hf, fun k h1 h2 => ?_⟩) (fun hc => ?_)
  · by_cases e : k = 0
    · rw [e, hr 0 (by omega) (by omega)]
      unfold rkp
      rw [rk_zero (by omega), rk_zero (by omega)]
    · exact hs k (by omega) h2
  · unfold g_X11_addRound_13
    refine gv_fx (fun (s : Int × Int) τ' => τ' = τ ∧ ∃ i : Nat, s.2 = i ∧ i ≤ (min (j : Int) b).toNat + 1 ∧ s.1 = gsum (fun i => rkp (ν (-200) 0) b r (j - i)) i ∧ s.1 ≤ 41 * i ∧ 0 ≤ s.1) (fun s _ => 20 - s.2.toNat) ⟨rfl, 0, rfl, by omega, rfl, by show (0 : Int) ≤ 41 * ((0 : Nat) : Int); omega, by show (0 : Int) ≤ 0; omega⟩ (by show 20 - (0 : Int).toNat < 100000; omega) ?_
    intro rec2 s τ' hI2 hrec2
    obtain ⟨rfl, i, e2, hi, e1, hs1, hs0⟩ := hI2
    unfold gB_X11_addRound_13
    refine gv_ck ⟨⟨by omega, by omega⟩, ⟨by omega, by omega⟩⟩ (gv_let ?_)
    rw [e2]
    rw [show min b (j : Int) = min (j : Int) b by omega]
    refine gv_cb ⟨⟨by omega, by omega⟩, ⟨by omega, by omega⟩⟩ (fun hc3 => ?_) (fun hc3 => ?_)
    · refine gv_get ?_
      rw [hT]
      have ei : i = (min (j : Int) b).toNat + 1 := by omega
      refine gv_ck ⟨⟨by omega, by omega⟩, ⟨by omega, by omega⟩⟩ (gv_let ?_)
      refine gv_as ⟨by omega, by omega⟩ (gv_let ?_)
      refine hrec _ _ ⟨j - 1, by omega, by omega, hf.up (by decide), fun k h1 h2 => ?_, fun k h1 h2 => ?_⟩ (by omega)
      · rw [gup_same, if_neg (by omega)]; exact hr k h1 (by omega)
      · rw [gup_same]
        by_cases e : k = j
        · rw [if_pos e, e1, ei, e]; exact rkp_step (by omega) (by omega) r (by omega)
        · rw [if_neg e]; exact hs k (by omega) (by omega)
    · refine gv_al ⟨by omega, by omega⟩ (gv_let (gv_let ?_))
      have hv := hr (j - i) (by omega) (by omega)
      have hp : 0 ≤ rkp (ν (-200) 0) b r (j - i) ∧ rkp (ν (-200) 0) b r (j - i) ≤ 41 := by
        have := rk_nonneg (by omega : 0 ≤ b) r (j - i) (by omega)
        unfold rkp
        omega
      refine hrec2 _ _ ⟨rfl, i + 1, by show (i : Int) + 1 = _; omega, by omega, ?_, ?_, ?_⟩ (by show 20 - ((i : Int) + 1).toNat < 20 - s.2.toNat; rw [e2]; omega)
      · show s.1 + τ' 50 (j - i) = gsum (fun i => rkp (ν (-200) 0) b r (j - i)) i + rkp (ν (-200) 0) b r (j - i)
        rw [hv, e1]
      · show s.1 + τ' 50 (j - i) ≤ 41 * ((i + 1 : Nat) : Int)
        rw [hv]; omega
      · show 0 ≤ s.1 + τ' 50 (j - i)
        rw [hv]; omega
theorem s_J7_fill_o50 {T : gT} {ν : gN} (v : Int) : gv (g_J7_fill_o50 v) T ν (fun _ ν' => gfr [50] ν ν' ∧ ∀ k : Int, 0 ≤ k → k < 10 → ν' 50 k = v) := by
  unfold g_J7_fill_o50 g_J7_fill_5_o50
  refine gv_fx (fun (x : Int) τ => ∃ j : Nat, x = j ∧ j ≤ 10 ∧ gfr [50] ν τ ∧ ∀ k : Int, 0 ≤ k → k < j → τ 50 k = v) (fun x _ => 10 - x.toNat) ⟨0, rfl, by omega, gfr.refl _ _, fun k h1 h2 => by omega⟩ (by omega) ?_
  intro rec x τ hI hrec
  obtain ⟨j, rfl, hj, hf, hz⟩ := hI
  unfold gB_J7_fill_5_o50
  refine gv_cb ⟨⟨by omega, by omega⟩, ⟨by omega, by omega⟩⟩ (fun hc => gv_ret ⟨hf, fun k h1 h2 => hz k h1 (by omega)⟩) (fun hc => ?_)
  refine gv_as ⟨by omega, by omega⟩ (gv_let ?_)
  refine hrec _ _ ⟨j + 1, by omega, by omega, hf.up (by decide), fun k h1 h2 => ?_⟩ (by omega)
  rw [gup_same]
  by_cases e : k = j
  · rw [if_pos e]
  · rw [if_neg e]; exact hz k h1 (by omega)
theorem s_X11_rounds {T : gT} {ν : gN} {n b : Int} (hn : -2147483648 ≤ n ∧ n ≤ 2147483647) (hb : -2147483648 ≤ b ∧ b ≤ 2147483647) (ht : 1 ≤ ν (-200) 0 ∧ ν (-200) 0 ≤ 40) : gv (g_X11_rounds n b) T ν (fun r ν' => (if (1 ≤ n ∧ n ≤ 9) ∧ (1 ≤ b ∧ b ≤ 4) then rkR (ν (-200) 0) b n r ∧ r ≤ 40 else r = -1) ∧ gfr [50] ν ν') := by
  unfold g_X11_rounds
  refine gv_cb ⟨hn, by decide⟩ (fun c => gv_ret ⟨by rw [if_neg (by omega)], gfr.refl _ _⟩) (fun c1 => ?_)
  refine gv_cb ⟨hn, by decide⟩ (fun c => gv_ret ⟨by rw [if_neg (by omega)], gfr.refl _ _⟩) (fun c2 => ?_)
  refine gv_cb ⟨hb, by decide⟩ (fun c => gv_ret ⟨by rw [if_neg (by omega)], gfr.refl _ _⟩) (fun c3 => ?_)
  refine gv_cb ⟨hb, by decide⟩ (fun c4 => ?_) (fun c => gv_ret ⟨by rw [if_neg (by omega)], gfr.refl _ _⟩)
  simp only [if_pos (show (1 ≤ n ∧ n ≤ 9) ∧ (1 ≤ b ∧ b ≤ 4) by omega)]
  refine gv_call (s_J7_fill_o50 1) (fun _ ν1 h1 => ?_)
  obtain ⟨hf1, hv1⟩ := h1
  unfold g_X11_rounds_33
  refine gv_fx (fun (x3 : Int) τ => ∃ r : Nat, x3 = r ∧ gfr [50] ν τ ∧ (∀ k : Int, 0 ≤ k → k ≤ n → τ 50 k = rkp (ν (-200) 0) b r k) ∧ (∀ q : Nat, q < r → rk b q n < ν (-200) 0)) (fun x3 _ => 41 - x3.toNat) ⟨0, rfl, hf1, fun k h1 h2 => ?_, fun q hq => by omega⟩ (by omega) ?_
  · rw [hv1 k h1 (by omega)]
    show (1 : Int) = min (0 + 1) (ν (-200) 0 + 1)
    omega
  intro rec x3 τ hI hrec
  obtain ⟨r, rfl, hf, hr, hq⟩ := hI
  have hT : τ (-200) = ν (-200) := hf _ (by decide)
  have hg := rk_grows (by omega : 1 ≤ b) (by omega : 1 ≤ n) r
  have hr40 : r ≤ 40 := by
    apply Classical.byContradiction
    intro hc
    have h1 := hq 40 (by omega)
    have h2 := rk_grows (by omega : 1 ≤ b) (by omega : 1 ≤ n) 40
    omega
  have hpn := hr n (by omega) (by omega)
  have hpu : rkp (ν (-200) 0) b r n = min (rk b r n + 1) (ν (-200) 0 + 1) := rfl
  have hnn := rk_nonneg (by omega : 0 ≤ b) r n (by omega)
  unfold gB_X11_rounds_33
  refine gv_get ?_
  rw [hT]
  refine gv_cb ⟨⟨by omega, by omega⟩, ⟨by omega, by omega⟩⟩ (fun hc => gv_ret ⟨⟨⟨by omega, by rw [Int.toNat_natCast]; omega, by rw [Int.toNat_natCast]; exact hq⟩, by omega⟩, hf⟩) (fun hc => ?_)
  refine gv_al ⟨by omega, by omega⟩ (gv_get ?_)
  rw [hT, hpn]
  refine gv_cb ⟨⟨by omega, by omega⟩, ⟨by omega, by omega⟩⟩ (fun hc => gv_ret ⟨⟨⟨by omega, by rw [Int.toNat_natCast]; omega, by rw [Int.toNat_natCast]; exact hq⟩, by omega⟩, hf⟩) (fun hc => ?_)
  refine gv_call (s_X11_addRound (by omega) (by omega) (by rw [hT]; exact ht) r (by rw [hT]; exact hr)) (fun _ ν2 h2 => ?_)
  rw [hT] at h2
  refine gv_let (hrec _ _ ⟨r + 1, by omega, hf.trans h2.1, h2.2, fun q hq2 => ?_⟩ (by omega))
  by_cases e : q = r
  · rw [e]; omega
  · exact hq q (by omega)
