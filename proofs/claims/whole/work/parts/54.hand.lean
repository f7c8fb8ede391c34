/-! A COURSE: what a trial has done -/
def hbk (d K S : Int → Int) (t i : Int) : Int := if S i ≤ t + d (K i) then 0 else 1
def hlo (d K S : Int → Int) (t : Int) : Nat → Int
  | 0 => 0
  | n + 1 => if hbk d K S t n = 0 then max (hlo d K S t n) (S n - d (K n)) else hlo d K S t n
def hhi (d K S : Int → Int) (t top : Int) : Nat → Int
  | 0 => top
  | n + 1 => if hbk d K S t n = 0 then hhi d K S t top n else min (hhi d K S t top n) (S n - d (K n) - 1)
def hlf (p : Int → Int) (d K S : Int → Int) (t k : Int) (n : Nat) : Int := p k - gsum (fun i => if K i = k then hbk d K S t i else 0) n
theorem hbk01 (d K S : Int → Int) (t i : Int) : hbk d K S t i = 0 ∨ hbk d K S t i = 1 := by unfold hbk; split <;> omega
theorem hlo_congr {d K S d' K' S' : Int → Int} (t : Int) : ∀ n : Nat, (∀ i : Int, 0 ≤ i → i < n → K i = K' i ∧ S i = S' i ∧ d (K i) = d' (K' i)) → hlo d K S t n = hlo d' K' S' t n := by
  intro n
  induction n with
  | zero => intro _; rfl
  | succ n ih =>
    intro h
    have h1 := h n (by omega) (by omega)
    show (if hbk d K S t n = 0 then max (hlo d K S t n) (S n - d (K n)) else hlo d K S t n) = (if hbk d' K' S' t n = 0 then max (hlo d' K' S' t n) (S' n - d' (K' n)) else hlo d' K' S' t n)
    unfold hbk
    rw [ih (fun i a b => h i a (by omega)), h1.2.1, h1.2.2]
theorem hhi_congr {d K S d' K' S' : Int → Int} (t top : Int) : ∀ n : Nat, (∀ i : Int, 0 ≤ i → i < n → K i = K' i ∧ S i = S' i ∧ d (K i) = d' (K' i)) → hhi d K S t top n = hhi d' K' S' t top n := by
  intro n
  induction n with
  | zero => intro _; rfl
  | succ n ih =>
    intro h
    have h1 := h n (by omega) (by omega)
    show (if hbk d K S t n = 0 then hhi d K S t top n else min (hhi d K S t top n) (S n - d (K n) - 1)) = (if hbk d' K' S' t n = 0 then hhi d' K' S' t top n else min (hhi d' K' S' t top n) (S' n - d' (K' n) - 1))
    unfold hbk
    rw [ih (fun i a b => h i a (by omega)), h1.2.1, h1.2.2]
theorem hlf_congr {p d K S p' d' K' S' : Int → Int} (t k : Int) (n : Nat) (hp : p k = p' k) (h : ∀ i : Int, 0 ≤ i → i < n → K i = K' i ∧ S i = S' i ∧ d (K i) = d' (K' i)) : hlf p d K S t k n = hlf p' d' K' S' t k n := by
  unfold hlf
  rw [hp, gsum_congr n (fun i hi => ?_)]
  have h1 := h i (by omega) (by omega)
  show (if K i = k then hbk d K S t i else 0) = (if K' i = k then hbk d' K' S' t i else 0)
  unfold hbk
  rw [h1.1, h1.2.1]
  rw [h1.1] at h1
  rw [h1.2.2]
theorem hlo_in {d K S : Int → Int} (t : Int) : ∀ n : Nat, (∀ i : Int, 0 ≤ i → i < n → (1 ≤ S i ∧ S i ≤ 40) ∧ (-9 ≤ d (K i) ∧ d (K i) ≤ 9)) → 0 ≤ hlo d K S t n ∧ hlo d K S t n ≤ 60 := by
  intro n
  induction n with
  | zero => intro _; exact ⟨by show (0 : Int) ≤ 0; omega, by show (0 : Int) ≤ 60; omega⟩
  | succ n ih =>
    intro h
    have h1 := h n (by omega) (by omega)
    have h2 := ih (fun i a b => h i a (by omega))
    show 0 ≤ (if hbk d K S t n = 0 then max (hlo d K S t n) (S n - d (K n)) else hlo d K S t n) ∧ (if hbk d K S t n = 0 then max (hlo d K S t n) (S n - d (K n)) else hlo d K S t n) ≤ 60
    split <;> omega
theorem hhi_in {d K S : Int → Int} (t top : Int) (ht : 0 ≤ top ∧ top ≤ 40) : ∀ n : Nat, (∀ i : Int, 0 ≤ i → i < n → (1 ≤ S i ∧ S i ≤ 40) ∧ (-9 ≤ d (K i) ∧ d (K i) ≤ 9)) → -20 ≤ hhi d K S t top n ∧ hhi d K S t top n ≤ 40 := by
  intro n
  induction n with
  | zero => intro _; exact ⟨by show (-20 : Int) ≤ top; omega, ht.2⟩
  | succ n ih =>
    intro h
    have h1 := h n (by omega) (by omega)
    have h2 := ih (fun i a b => h i a (by omega))
    show -20 ≤ (if hbk d K S t n = 0 then hhi d K S t top n else min (hhi d K S t top n) (S n - d (K n) - 1)) ∧ (if hbk d K S t n = 0 then hhi d K S t top n else min (hhi d K S t top n) (S n - d (K n) - 1)) ≤ 40
    split <;> omega
theorem hlf_le {p d K S : Int → Int} (t k : Int) (n : Nat) : hlf p d K S t k n ≤ p k := by
  unfold hlf
  have := gsum_nonneg (f := fun i => if K i = k then hbk d K S t i else 0) n (fun i _ => by
    show 0 ≤ (if K i = k then hbk d K S t i else 0)
    have := hbk01 d K S t i
    split <;> omega)
  omega
theorem hlf_succ {p d K S : Int → Int} (t k : Int) (n : Nat) : hlf p d K S t k (n + 1) = hlf p d K S t k n - (if K n = k then hbk d K S t n else 0) := by
  unfold hlf
  show p k - (gsum _ n + (if K n = k then hbk d K S t n else 0)) = _
  omega
section
variable {T : gT} {ν : gN}
theorem d_X8_costOf {k s b : Int} (hk : 0 ≤ k ∧ k < 3) (hb : b = 0 ∨ b = 1) : gd (g_X8_costOf k s b) T ν (ν (-204) 0 + ν (-205) 0 * s + (if b = 0 then 0 else ν 5 k)) := by
  unfold g_X8_costOf g_X8_costOf_25
  refine gd_get (gd_get ?_)
  rcases hb with rfl | rfl
  · exact gd_cz (by decide) (fun _ => gd_ret) (fun h => absurd rfl h)
  · exact gd_cz (by decide) (fun h => absurd h (by decide)) (fun _ => gd_al hk gd_ret)
theorem s_X1_start_o61 {t : Int} (ht : 1 ≤ ν (-200) 0 ∧ ν (-200) 0 ≤ 40) : gv (g_X1_start_o61 t) T ν (fun _ ν' => gfr [62, -6108, -6109, -6110, -6111, -6112, -6113] ν ν' ∧ (∀ k : Int, 0 ≤ k → k < 3 → ν' 62 k = ν 4 k) ∧ ν' (-6108) 0 = t ∧ ν' (-6109) 0 = 0 ∧ ν' (-6110) 0 = ν (-200) 0 ∧ ν' (-6111) 0 = 0 ∧ ν' (-6112) 0 = 0 ∧ ν' (-6113) 0 = 0) := by
  unfold g_X1_start_o61 g_X1_start_2_o61
  refine gv_fx (fun (x : Int) τ => ∃ j : Nat, x = j ∧ j ≤ 3 ∧ gfr [62, -6108, -6109, -6110, -6111, -6112, -6113] ν τ ∧ ∀ k : Int, 0 ≤ k → k < j → τ 62 k = ν 4 k) (fun x _ => 3 - x.toNat) ⟨0, rfl, by omega, gfr.refl _ _, fun k h1 h2 => by omega⟩ (by omega) ?_
  intro rec x τ hI hrec
  obtain ⟨j, rfl, hj, hf, hz⟩ := hI
  unfold gB_X1_start_2_o61
  refine gv_cb ⟨⟨by omega, by omega⟩, ⟨by omega, by omega⟩⟩ (fun hc => gv_put (gv_put (gv_get (gv_put (gv_put (gv_put (gv_put (gv_ret ?_)))))))) (fun hc => gv_al ⟨by omega, by omega⟩ (gv_as ⟨by omega, by omega⟩ (gv_let ?_)))
  · refine ⟨(((((hf.up (by decide)).up (by decide)).up (by decide)).up (by decide)).up (by decide)).up (by decide), fun k k1 k2 => ?_, ?_, ?_, ?_, ?_, ?_, ?_⟩
    · try simp (disch := decide) only [gup_ne]
      exact hz k k1 (by omega)
    · try simp (disch := decide) only [gup_ne, gup_at]
    · try simp (disch := decide) only [gup_ne, gup_at]
    · try simp (disch := decide) only [gup_ne, gup_at]
      rw [hf (-200) (by decide)]
    · try simp (disch := decide) only [gup_ne, gup_at]
    · try simp (disch := decide) only [gup_ne, gup_at]
    · try simp (disch := decide) only [gup_ne, gup_at]
  · rw [hf 4 (by decide)]
    refine hrec _ _ ⟨j + 1, by omega, by omega, hf.up (by decide), fun k h1 h2 => ?_⟩ (by omega)
    rw [gup_same]
    by_cases e : k = j
    · rw [if_pos e, e]
    · rw [if_neg e]; exact hz k h1 (by omega)
theorem d_X1_canFall_o61 {k s : Int} (hk : -2147483648 ≤ k ∧ k ≤ 2147483647) (hs : -2147483648 ≤ s ∧ s ≤ 2147483647) (ht : 1 ≤ ν (-200) 0 ∧ ν (-200) 0 ≤ 40) (hl : ∀ k : Int, 0 ≤ k → k < 3 → -100 ≤ ν 62 k ∧ ν 62 k ≤ 100) (hf : 0 ≤ ν (-6111) 0 ∧ ν (-6111) 0 ≤ 1000) : gd (g_X1_canFall_o61 k s) T ν (if (0 ≤ k ∧ k < 3) ∧ (1 ≤ s ∧ s ≤ ν (-200) 0) ∧ 0 < ν 62 k ∧ ν (-6111) 0 < 100 then 1 else 0) := by
  unfold g_X1_canFall_o61
  refine gd_rd (d_X8_hasKind hk) ?_
  by_cases c1 : 0 ≤ k ∧ k < 3
  · rw [if_pos c1]
    refine gd_cz (by decide) (fun h => absurd h (by decide)) (fun _ => gd_rd (d_X8_hasStep hs ht) ?_)
    by_cases c2 : 1 ≤ s ∧ s ≤ ν (-200) 0
    · rw [if_pos c2]
      have := hl k c1.1 c1.2
      refine gd_cz (by decide) (fun h => absurd h (by decide)) (fun _ => gd_al c1 (gd_cz ⟨by omega, by omega⟩ (fun c3 => ?_) (fun c3 => gd_get (gd_cb ⟨⟨by omega, by omega⟩, ⟨by omega, by omega⟩⟩ (fun c4 => ?_) (fun c4 => ?_)))))
      · rw [if_neg (by omega)]; exact gd_ret
      · rw [if_neg (by omega)]; exact gd_ret
      · rw [if_pos ⟨c1, c2, by omega, by omega⟩]; exact gd_ret
    · rw [if_neg c2, if_neg (fun h => c2 h.2.1)]
      exact gd_cz (by decide) (fun _ => gd_ret) (fun h => absurd rfl h)
  · rw [if_neg c1, if_neg (fun h => c1 h.1)]
    exact gd_cz (by decide) (fun _ => gd_ret) (fun h => absurd rfl h)
theorem s_X1_letFall_o61 {k s b : Int} (hk : 0 ≤ k ∧ k < 3) (hs : 1 ≤ s ∧ s ≤ 40) (hd : nD ν 3) (hf : 0 ≤ ν (-6111) 0 ∧ ν (-6111) 0 < 100) (ht : 0 ≤ ν (-6108) 0 ∧ ν (-6108) 0 ≤ 40) (h9 : -100 ≤ ν (-6109) 0 ∧ ν (-6109) 0 ≤ 100) (h10 : -100 ≤ ν (-6110) 0 ∧ ν (-6110) 0 ≤ 100) (hb : b = if s ≤ ν (-6108) 0 + ν 3 k then 0 else 1) :
    gv (g_X1_letFall_o61 k s) T ν (fun r ν' => r = b ∧ gfr [63, 64, 65, 66, 67, 68, 62, -6109, -6110, -6111, -6112, -6113] ν ν' ∧ (∀ j : Int, ν' 63 j = if j = ν (-6111) 0 then k else ν 63 j) ∧ (∀ j : Int, ν' 64 j = if j = ν (-6111) 0 then s else ν 64 j) ∧ (∀ j : Int, ν' 65 j = if j = ν (-6111) 0 then b else ν 65 j) ∧ (∀ j : Int, ν' 66 j = if j = ν (-6111) 0 then ν (-6109) 0 else ν 66 j) ∧ (∀ j : Int, ν' 67 j = if j = ν (-6111) 0 then ν (-6110) 0 else ν 67 j) ∧ (∀ j : Int, ν' 68 j = if j = ν (-6111) 0 then ν (-6113) 0 else ν 68 j)
      ∧ (∀ j : Int, ν' 62 j = if j = k then ν 62 k - b else ν 62 j) ∧ ν' (-6111) 0 = ν (-6111) 0 + 1 ∧ ν' (-6109) 0 = (if b = 0 then max (ν (-6109) 0) (s - ν 3 k) else ν (-6109) 0) ∧ ν' (-6110) 0 = (if b = 0 then ν (-6110) 0 else min (ν (-6110) 0) (s - ν 3 k - 1)) ∧ ν' (-6112) 0 = ν (-6112) 0 + b ∧ ν' (-6113) 0 = ν (-6113) 0 + (ν (-204) 0 + ν (-205) 0 * s + (if b = 0 then 0 else ν 5 k))) := by
  have hd1 := hd k hk.1 hk.2
  have hb01 : b = 0 ∨ b = 1 := by rw [hb]; split <;> omega
  have hb2 : (if b = 0 then (0 : Int) else 1) = b := by rcases hb01 with rfl | rfl <;> rfl
  unfold g_X1_letFall_o61
  refine gv_get ?_
  have hbr : gd (g_X8_breaks k s (ν (-6108) 0)) T ν b := by rw [hb]; exact d_X8_breaks hk ⟨by omega, by omega⟩ ⟨by omega, by omega⟩ hd1
  refine gv_rd hbr (gv_get (gv_as ⟨by omega, by omega⟩ (gv_get ?_)))
  simp (disch := decide) only [gup_ne]
  refine gv_as ⟨by omega, by omega⟩ (gv_get ?_)
  simp (disch := decide) only [gup_ne]
  refine gv_ck ⟨by omega, by omega⟩ (gv_let ?_)
  rw [hb2]
  refine gv_as ⟨by omega, by omega⟩ (gv_get (gv_get ?_))
  simp (disch := decide) only [gup_ne]
  refine gv_as ⟨by omega, by omega⟩ (gv_get (gv_get ?_))
  simp (disch := decide) only [gup_ne]
  refine gv_as ⟨by omega, by omega⟩ (gv_get (gv_get ?_))
  simp (disch := decide) only [gup_ne]
  refine gv_as ⟨by omega, by omega⟩ (gv_get (gv_put (gv_al ⟨by omega, by omega⟩ (gv_let ?_))))
  simp (disch := decide) only [gup_ne]
  unfold g_X1_letFall_166_o61
  refine gv_cz ⟨by omega, by omega⟩ (fun c => gv_get ?_) (fun c => gv_get ?_)
  · simp (disch := decide) only [gup_ne]
    refine gv_ck (by simp (disch := decide) only [gup_ne]; omega) (gv_let (gv_put (gv_get (gv_rd (d_X8_costOf hk hb01) (gv_put (gv_ck hb01 (gv_ret ?_)))))))
    simp (disch := decide) only [gup_ne]
    simp only [if_pos c]
    refine ⟨by trivial, ((((((((((gfr.refl _ _).up (by decide)).up (by decide)).up (by decide)).up (by decide)).up (by decide)).up (by decide)).up (by decide)).up (by decide)).up (by decide)), fun j => ?_, fun j => ?_, fun j => ?_, fun j => ?_, fun j => ?_, fun j => ?_, fun j => ?_, ?_, ?_, ?_, ?_, ?_⟩
    · try simp (disch := decide) only [gup_ne, gup_same]
    · try simp (disch := decide) only [gup_ne, gup_same]
    · try simp (disch := decide) only [gup_ne, gup_same]
    · try simp (disch := decide) only [gup_ne, gup_same]
    · try simp (disch := decide) only [gup_ne, gup_same]
    · try simp (disch := decide) only [gup_ne, gup_same]
    · try simp (disch := decide) only [gup_ne]
      by_cases e : j = k
      · rw [if_pos e, e, c]; omega
      · rw [if_neg e]
    · try simp (disch := decide) only [gup_ne, gup_at]
    · try simp (disch := decide) only [gup_ne, gup_at]
    · try simp (disch := decide) only [gup_ne, gup_at]
    · try simp (disch := decide) only [gup_ne, gup_at]
      rw [c]; omega
    · try simp (disch := decide) only [gup_ne, gup_at]
  · simp (disch := decide) only [gup_ne]
    refine gv_ck (by simp (disch := decide) only [gup_ne]; omega) (gv_let (gv_put (gv_al hk (gv_as hk (gv_get (gv_put (gv_get (gv_rd (d_X8_costOf hk hb01) (gv_put (gv_ck hb01 (gv_ret ?_)))))))))))
    simp (disch := decide) only [gup_ne]
    have c1 : b = 1 := by omega
    simp only [if_neg c]
    refine ⟨by trivial, ((((((((((((gfr.refl _ _).up (by decide)).up (by decide)).up (by decide)).up (by decide)).up (by decide)).up (by decide)).up (by decide)).up (by decide)).up (by decide)).up (by decide)).up (by decide)), fun j => ?_, fun j => ?_, fun j => ?_, fun j => ?_, fun j => ?_, fun j => ?_, fun j => ?_, ?_, ?_, ?_, ?_, ?_⟩
    · try simp (disch := decide) only [gup_ne, gup_same]
    · try simp (disch := decide) only [gup_ne, gup_same]
    · try simp (disch := decide) only [gup_ne, gup_same]
    · try simp (disch := decide) only [gup_ne, gup_same]
    · try simp (disch := decide) only [gup_ne, gup_same]
    · try simp (disch := decide) only [gup_ne, gup_same]
    · try simp (disch := decide) only [gup_ne, gup_same]
      rw [c1]
    · try simp (disch := decide) only [gup_ne, gup_at]
    · try simp (disch := decide) only [gup_ne, gup_at]
    · try simp (disch := decide) only [gup_ne, gup_at]
    · try simp (disch := decide) only [gup_ne, gup_at]
      rw [c1]
    · try simp (disch := decide) only [gup_ne, gup_at]
theorem s_X1_start_o29 {t : Int} (ht : 1 ≤ ν (-200) 0 ∧ ν (-200) 0 ≤ 40) : gv (g_X1_start_o29 t) T ν (fun _ ν' => gfr [30, -2908, -2909, -2910, -2911, -2912, -2913] ν ν' ∧ (∀ k : Int, 0 ≤ k → k < 3 → ν' 30 k = ν 4 k) ∧ ν' (-2908) 0 = t ∧ ν' (-2909) 0 = 0 ∧ ν' (-2910) 0 = ν (-200) 0 ∧ ν' (-2911) 0 = 0 ∧ ν' (-2912) 0 = 0 ∧ ν' (-2913) 0 = 0) := by
  unfold g_X1_start_o29 g_X1_start_2_o29
  refine gv_fx (fun (x : Int) τ => ∃ j : Nat, x = j ∧ j ≤ 3 ∧ gfr [30, -2908, -2909, -2910, -2911, -2912, -2913] ν τ ∧ ∀ k : Int, 0 ≤ k → k < j → τ 30 k = ν 4 k) (fun x _ => 3 - x.toNat) ⟨0, rfl, by omega, gfr.refl _ _, fun k h1 h2 => by omega⟩ (by omega) ?_
  intro rec x τ hI hrec
  obtain ⟨j, rfl, hj, hf, hz⟩ := hI
  unfold gB_X1_start_2_o29
  refine gv_cb ⟨⟨by omega, by omega⟩, ⟨by omega, by omega⟩⟩ (fun hc => gv_put (gv_put (gv_get (gv_put (gv_put (gv_put (gv_put (gv_ret ?_)))))))) (fun hc => gv_al ⟨by omega, by omega⟩ (gv_as ⟨by omega, by omega⟩ (gv_let ?_)))
  · refine ⟨(((((hf.up (by decide)).up (by decide)).up (by decide)).up (by decide)).up (by decide)).up (by decide), fun k k1 k2 => ?_, ?_, ?_, ?_, ?_, ?_, ?_⟩
    · try simp (disch := decide) only [gup_ne]
      exact hz k k1 (by omega)
    · try simp (disch := decide) only [gup_ne, gup_at]
    · try simp (disch := decide) only [gup_ne, gup_at]
    · try simp (disch := decide) only [gup_ne, gup_at]
      rw [hf (-200) (by decide)]
    · try simp (disch := decide) only [gup_ne, gup_at]
    · try simp (disch := decide) only [gup_ne, gup_at]
    · try simp (disch := decide) only [gup_ne, gup_at]
  · rw [hf 4 (by decide)]
    refine hrec _ _ ⟨j + 1, by omega, by omega, hf.up (by decide), fun k h1 h2 => ?_⟩ (by omega)
    rw [gup_same]
    by_cases e : k = j
    · rw [if_pos e, e]
    · rw [if_neg e]; exact hz k h1 (by omega)
theorem d_X1_canFall_o29 {k s : Int} (hk : -2147483648 ≤ k ∧ k ≤ 2147483647) (hs : -2147483648 ≤ s ∧ s ≤ 2147483647) (ht : 1 ≤ ν (-200) 0 ∧ ν (-200) 0 ≤ 40) (hl : ∀ k : Int, 0 ≤ k → k < 3 → -100 ≤ ν 30 k ∧ ν 30 k ≤ 100) (hf : 0 ≤ ν (-2911) 0 ∧ ν (-2911) 0 ≤ 1000) : gd (g_X1_canFall_o29 k s) T ν (if (0 ≤ k ∧ k < 3) ∧ (1 ≤ s ∧ s ≤ ν (-200) 0) ∧ 0 < ν 30 k ∧ ν (-2911) 0 < 200 then 1 else 0) := by
  unfold g_X1_canFall_o29
  refine gd_rd (d_X8_hasKind hk) ?_
  by_cases c1 : 0 ≤ k ∧ k < 3
  · rw [if_pos c1]
    refine gd_cz (by decide) (fun h => absurd h (by decide)) (fun _ => gd_rd (d_X8_hasStep hs ht) ?_)
    by_cases c2 : 1 ≤ s ∧ s ≤ ν (-200) 0
    · rw [if_pos c2]
      have := hl k c1.1 c1.2
      refine gd_cz (by decide) (fun h => absurd h (by decide)) (fun _ => gd_al c1 (gd_cz ⟨by omega, by omega⟩ (fun c3 => ?_) (fun c3 => gd_get (gd_cb ⟨⟨by omega, by omega⟩, ⟨by omega, by omega⟩⟩ (fun c4 => ?_) (fun c4 => ?_)))))
      · rw [if_neg (by omega)]; exact gd_ret
      · rw [if_neg (by omega)]; exact gd_ret
      · rw [if_pos ⟨c1, c2, by omega, by omega⟩]; exact gd_ret
    · rw [if_neg c2, if_neg (fun h => c2 h.2.1)]
      exact gd_cz (by decide) (fun _ => gd_ret) (fun h => absurd rfl h)
  · rw [if_neg c1, if_neg (fun h => c1 h.1)]
    exact gd_cz (by decide) (fun _ => gd_ret) (fun h => absurd rfl h)
theorem s_X1_letFall_o29 {k s b : Int} (hk : 0 ≤ k ∧ k < 3) (hs : 1 ≤ s ∧ s ≤ 40) (hd : nD ν 3) (hf : 0 ≤ ν (-2911) 0 ∧ ν (-2911) 0 < 200) (ht : 0 ≤ ν (-2908) 0 ∧ ν (-2908) 0 ≤ 40) (h9 : -100 ≤ ν (-2909) 0 ∧ ν (-2909) 0 ≤ 100) (h10 : -100 ≤ ν (-2910) 0 ∧ ν (-2910) 0 ≤ 100) (hb : b = if s ≤ ν (-2908) 0 + ν 3 k then 0 else 1) :
    gv (g_X1_letFall_o29 k s) T ν (fun r ν' => r = b ∧ gfr [31, 32, 33, 34, 35, 36, 30, -2909, -2910, -2911, -2912, -2913] ν ν' ∧ (∀ j : Int, ν' 31 j = if j = ν (-2911) 0 then k else ν 31 j) ∧ (∀ j : Int, ν' 32 j = if j = ν (-2911) 0 then s else ν 32 j) ∧ (∀ j : Int, ν' 33 j = if j = ν (-2911) 0 then b else ν 33 j) ∧ (∀ j : Int, ν' 34 j = if j = ν (-2911) 0 then ν (-2909) 0 else ν 34 j) ∧ (∀ j : Int, ν' 35 j = if j = ν (-2911) 0 then ν (-2910) 0 else ν 35 j) ∧ (∀ j : Int, ν' 36 j = if j = ν (-2911) 0 then ν (-2913) 0 else ν 36 j)
      ∧ (∀ j : Int, ν' 30 j = if j = k then ν 30 k - b else ν 30 j) ∧ ν' (-2911) 0 = ν (-2911) 0 + 1 ∧ ν' (-2909) 0 = (if b = 0 then max (ν (-2909) 0) (s - ν 3 k) else ν (-2909) 0) ∧ ν' (-2910) 0 = (if b = 0 then ν (-2910) 0 else min (ν (-2910) 0) (s - ν 3 k - 1)) ∧ ν' (-2912) 0 = ν (-2912) 0 + b ∧ ν' (-2913) 0 = ν (-2913) 0 + (ν (-204) 0 + ν (-205) 0 * s + (if b = 0 then 0 else ν 5 k))) := by
  have hd1 := hd k hk.1 hk.2
  have hb01 : b = 0 ∨ b = 1 := by rw [hb]; split <;> omega
  have hb2 : (if b = 0 then (0 : Int) else 1) = b := by rcases hb01 with rfl | rfl <;> rfl
  unfold g_X1_letFall_o29
  refine gv_get ?_
  have hbr : gd (g_X8_breaks k s (ν (-2908) 0)) T ν b := by rw [hb]; exact d_X8_breaks hk ⟨by omega, by omega⟩ ⟨by omega, by omega⟩ hd1
  refine gv_rd hbr (gv_get (gv_as ⟨by omega, by omega⟩ (gv_get ?_)))
  simp (disch := decide) only [gup_ne]
  refine gv_as ⟨by omega, by omega⟩ (gv_get ?_)
  simp (disch := decide) only [gup_ne]
  refine gv_ck ⟨by omega, by omega⟩ (gv_let ?_)
  rw [hb2]
  refine gv_as ⟨by omega, by omega⟩ (gv_get (gv_get ?_))
  simp (disch := decide) only [gup_ne]
  refine gv_as ⟨by omega, by omega⟩ (gv_get (gv_get ?_))
  simp (disch := decide) only [gup_ne]
  refine gv_as ⟨by omega, by omega⟩ (gv_get (gv_get ?_))
  simp (disch := decide) only [gup_ne]
  refine gv_as ⟨by omega, by omega⟩ (gv_get (gv_put (gv_al ⟨by omega, by omega⟩ (gv_let ?_))))
  simp (disch := decide) only [gup_ne]
  unfold g_X1_letFall_166_o29
  refine gv_cz ⟨by omega, by omega⟩ (fun c => gv_get ?_) (fun c => gv_get ?_)
  · simp (disch := decide) only [gup_ne]
    refine gv_ck (by simp (disch := decide) only [gup_ne]; omega) (gv_let (gv_put (gv_get (gv_rd (d_X8_costOf hk hb01) (gv_put (gv_ck hb01 (gv_ret ?_)))))))
    simp (disch := decide) only [gup_ne]
    simp only [if_pos c]
    refine ⟨by trivial, ((((((((((gfr.refl _ _).up (by decide)).up (by decide)).up (by decide)).up (by decide)).up (by decide)).up (by decide)).up (by decide)).up (by decide)).up (by decide)), fun j => ?_, fun j => ?_, fun j => ?_, fun j => ?_, fun j => ?_, fun j => ?_, fun j => ?_, ?_, ?_, ?_, ?_, ?_⟩
    · try simp (disch := decide) only [gup_ne, gup_same]
    · try simp (disch := decide) only [gup_ne, gup_same]
    · try simp (disch := decide) only [gup_ne, gup_same]
    · try simp (disch := decide) only [gup_ne, gup_same]
    · try simp (disch := decide) only [gup_ne, gup_same]
    · try simp (disch := decide) only [gup_ne, gup_same]
    · try simp (disch := decide) only [gup_ne]
      by_cases e : j = k
      · rw [if_pos e, e, c]; omega
      · rw [if_neg e]
    · try simp (disch := decide) only [gup_ne, gup_at]
    · try simp (disch := decide) only [gup_ne, gup_at]
    · try simp (disch := decide) only [gup_ne, gup_at]
    · try simp (disch := decide) only [gup_ne, gup_at]
      rw [c]; omega
    · try simp (disch := decide) only [gup_ne, gup_at]
  · simp (disch := decide) only [gup_ne]
    refine gv_ck (by simp (disch := decide) only [gup_ne]; omega) (gv_let (gv_put (gv_al hk (gv_as hk (gv_get (gv_put (gv_get (gv_rd (d_X8_costOf hk hb01) (gv_put (gv_ck hb01 (gv_ret ?_)))))))))))
    simp (disch := decide) only [gup_ne]
    have c1 : b = 1 := by omega
    simp only [if_neg c]
    refine ⟨by trivial, ((((((((((((gfr.refl _ _).up (by decide)).up (by decide)).up (by decide)).up (by decide)).up (by decide)).up (by decide)).up (by decide)).up (by decide)).up (by decide)).up (by decide)).up (by decide)), fun j => ?_, fun j => ?_, fun j => ?_, fun j => ?_, fun j => ?_, fun j => ?_, fun j => ?_, ?_, ?_, ?_, ?_, ?_⟩
    · try simp (disch := decide) only [gup_ne, gup_same]
    · try simp (disch := decide) only [gup_ne, gup_same]
    · try simp (disch := decide) only [gup_ne, gup_same]
    · try simp (disch := decide) only [gup_ne, gup_same]
    · try simp (disch := decide) only [gup_ne, gup_same]
    · try simp (disch := decide) only [gup_ne, gup_same]
    · try simp (disch := decide) only [gup_ne, gup_same]
      rw [c1]
    · try simp (disch := decide) only [gup_ne, gup_at]
    · try simp (disch := decide) only [gup_ne, gup_at]
    · try simp (disch := decide) only [gup_ne, gup_at]
    · try simp (disch := decide) only [gup_ne, gup_at]
      rw [c1]
    · try simp (disch := decide) only [gup_ne, gup_at]
end
