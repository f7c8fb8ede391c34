/-! PLAN: the reference's scanner -/
def woff : Nat → Int
  | 0 => 0
  | i + 1 => woff i + (hf_slen.getD i 0 : Nat) + 1
theorem woff_in : ∀ i : Nat, i ≤ 15 → 0 ≤ woff i ∧ woff i ≤ 69 ∧ (i < 15 → woff i + (hf_slen.getD i 0 : Nat) < 69) := by decide
theorem woff_15 : woff 15 = 69 := by decide
/-- the reference keeps `and or not` where the class keeps `not or and` -/
def pm (i : Nat) : Nat := if i = 3 then 5 else if i = 5 then 3 else i
def pz (x : Int) : Int := if x = 3 then 5 else if x = 5 then 3 else x
theorem pm_ok : ∀ i : Nat, i < 15 → pm i < 15 ∧ hf_slen.getD (pm i) 0 = hf_slen.getD i 0 ∧ pm (pm i) = i ∧ pz ((pm i : Nat) : Int) = i := by decide
/-- the words as the reference keeps them -/
def iWd (ν : gN) : Prop := ∀ i : Nat, i < 15 → (∀ j : Nat, j < hf_slen.getD i 0 → ν 75 (woff i + j) = hf_sch (pm i) j) ∧ ν 75 (woff i + (hf_slen.getD i 0 : Nat)) = 32
theorem sch_no : ∀ i : Nat, i < 15 → ∀ j : Nat, j < 5 → j < hf_slen.getD i 0 → hf_sch i j ≠ 32 := by decide +kernel
theorem words_apart : ∀ i : Nat, i < 15 → ∀ j : Nat, j < 15 → i ≠ j → hf_slen.getD i 0 = hf_slen.getD j 0 → ∃ k : Nat, k < 5 ∧ k < hf_slen.getD i 0 ∧ hf_sch i k ≠ hf_sch j k := by decide +kernel
theorem wme_at {b : Int → Int} {s : Int} {i : Nat} : ∀ {n : Nat}, wme b s i n = true → ∀ j : Nat, j < n → b (s + j) = hf_sch i j := by
  intro n
  induction n with
  | zero => intro _ j hj; omega
  | succ n ih =>
    intro h j hj
    have h2 : (wme b s i n && decide (b (s + n) = hf_sch i n)) = true := h
    rw [Bool.and_eq_true] at h2
    by_cases e : j = n
    · rw [e]; exact of_decide_eq_true h2.2
    · exact ih h2.1 j (by omega)
theorem wm_one {b : Int → Int} {s len : Int} {i j : Nat} (hi : i < 15) (hj : j < 15) (h1 : wm b s len i = true) (h2 : wm b s len j = true) : i = j := by
  unfold wm at h1 h2
  rw [Bool.and_eq_true] at h1 h2
  have l1 := of_decide_eq_true h1.1
  have l2 := of_decide_eq_true h2.1
  by_cases e : i = j
  · exact e
  · exfalso
    obtain ⟨k, k1, k2, k3⟩ := words_apart i hi j hj e (by omega)
    have a1 := wme_at h1.2 k k2
    have a2 := wme_at h2.2 k (by omega)
    exact k3 (by rw [← a1, ← a2])
theorem lw_in (b : Int → Int) (s len : Int) : ∀ n : Nat, -1 ≤ lw b s len n ∧ lw b s len n < n := by
  intro n
  induction n with
  | zero => exact ⟨Int.le_refl _, by show (-1 : Int) < ((0 : Nat) : Int); omega⟩
  | succ n ih =>
    show -1 ≤ (if wm b s len n = true then (n : Int) else lw b s len n) ∧ (if wm b s len n = true then (n : Int) else lw b s len n) < ((n + 1 : Nat) : Int)
    split <;> omega
theorem lw_hit {b : Int → Int} {s len : Int} {i : Nat} (hi : i < 15) (h : wm b s len i = true) : lw b s len 15 = i := by
  have hh : ∀ m : Nat, i + 1 + m ≤ 15 → lw b s len (i + 1 + m) = i := by
    intro m
    induction m with
    | zero => intro _; show (if wm b s len i = true then (i : Int) else lw b s len i) = i; rw [if_pos h]
    | succ m ih =>
      intro hm
      show (if wm b s len (i + 1 + m) = true then ((i + 1 + m : Nat) : Int) else lw b s len (i + 1 + m)) = i
      rw [if_neg (fun g => by have := wm_one (by omega) hi g h; omega)]
      exact ih (by omega)
  have := hh (15 - (i + 1)) (by omega)
  rw [show i + 1 + (15 - (i + 1)) = 15 by omega] at this
  exact this
/-- the tokens are the same -/
def tkR (kd nm w v : Int) : Prop := (kd = 0 ∧ w = 0) ∨ (kd = 1 ∧ w = 5) ∨ (kd = 2 ∧ w = 2 ∧ (0 ≤ v ∧ v ≤ 9999) ∧ nm = min 1000 v) ∨ ((6 ≤ kd ∧ kd ≤ 20) ∧ w = 1 ∧ v = pz (kd - 6)) ∨ ((21 ≤ kd ∧ kd ≤ 26) ∧ w = 4 ∧ v = kd - 21) ∨ (w = 3 ∧ ((kd = 3 ∧ v = 40) ∨ (kd = 4 ∧ v = 41) ∨ (kd = 5 ∧ v = 59) ∨ (kd = 27 ∧ v = 43) ∨ (kd = 28 ∧ v = 45) ∨ (kd = 29 ∧ v = 42) ∨ (kd = 30 ∧ v = 47)))
/-- the reference's scanner stands at p in n bytes -/
def srI (ν : gN) (b : Int → Int) (n p : Int) : Prop := (∀ i : Int, 0 ≤ i → i < 400 → ν 70 i = b i) ∧ iWd ν ∧ ν (-6913) 0 = n ∧ ν (-6914) 0 = p ∧ (0 ≤ p ∧ p ≤ n) ∧ n ≤ 400 ∧ ∀ i : Int, 0 ≤ i → i < 400 → -2147483648 ≤ b i ∧ b i ≤ 2147483647
def wSr : List Int := [-6914, -6915, -6916, -6917]
section
variable {T : gT} {ν : gN} {b : Int → Int} {n p : Int}
theorem srI.mv (h : srI ν b n p) {τ : gN} (hf : gfr wSr ν τ) {p' : Int} (hp : τ (-6914) 0 = p') (hp' : 0 ≤ p' ∧ p' ≤ n) : srI τ b n p' := by
  obtain ⟨h7, h9, h1, h2, h3, h4, h5⟩ := h
  refine ⟨by rw [hf 70 (by decide)]; exact h7, ?_, by rw [hf _ (by decide)]; exact h1, hp, hp', h4, h5⟩
  unfold iWd at h9 ⊢
  rw [hf 75 (by decide)]; exact h9
theorem d_X12_isDigit (h : srI ν b n p) {x : Int} (hx : 0 ≤ x ∧ x ≤ n) : gd (g_X12_isDigit x) T ν (if x < n ∧ dgt b x = true then 1 else 0) := by
  obtain ⟨h7, h9, h1, h2, h3, h4, h5⟩ := h
  unfold g_X12_isDigit
  refine gd_get ?_
  rw [h1]
  refine gd_cb ⟨⟨by omega, by omega⟩, ⟨by omega, by omega⟩⟩ (fun c => by rw [if_neg (by omega)]; exact gd_ret) (fun c => gd_al ⟨by omega, by omega⟩ ?_)
  rw [h7 x hx.1 (by omega)]
  have hb := h5 x hx.1 (by omega)
  unfold dgt
  refine gd_cb ⟨⟨by omega, by omega⟩, ⟨by omega, by omega⟩⟩ (fun c2 => by rw [if_neg (fun g => by have := of_decide_eq_true g.2; omega)]; exact gd_ret) (fun c2 => gd_al ⟨by omega, by omega⟩ ?_)
  rw [h7 x hx.1 (by omega)]
  exact gd_cb ⟨⟨by omega, by omega⟩, ⟨by omega, by omega⟩⟩ (fun c3 => by rw [if_neg (fun g => by have := of_decide_eq_true g.2; omega)]; exact gd_ret) (fun c3 => by rw [if_pos ⟨by omega, decide_eq_true (by omega)⟩]; exact gd_ret)
theorem d_X12_isSmall (h : srI ν b n p) {x : Int} (hx : 0 ≤ x ∧ x ≤ n) : gd (g_X12_isSmall x) T ν (if x < n ∧ ltr b x = true then 1 else 0) := by
  obtain ⟨h7, h9, h1, h2, h3, h4, h5⟩ := h
  unfold g_X12_isSmall
  refine gd_get ?_
  rw [h1]
  refine gd_cb ⟨⟨by omega, by omega⟩, ⟨by omega, by omega⟩⟩ (fun c => by rw [if_neg (by omega)]; exact gd_ret) (fun c => gd_al ⟨by omega, by omega⟩ ?_)
  rw [h7 x hx.1 (by omega)]
  have hb := h5 x hx.1 (by omega)
  unfold ltr
  refine gd_cb ⟨⟨by omega, by omega⟩, ⟨by omega, by omega⟩⟩ (fun c2 => by rw [if_neg (fun g => by have := of_decide_eq_true g.2; omega)]; exact gd_ret) (fun c2 => gd_al ⟨by omega, by omega⟩ ?_)
  rw [h7 x hx.1 (by omega)]
  exact gd_cb ⟨⟨by omega, by omega⟩, ⟨by omega, by omega⟩⟩ (fun c3 => by rw [if_neg (fun g => by have := of_decide_eq_true g.2; omega)]; exact gd_ret) (fun c3 => by rw [if_pos ⟨by omega, decide_eq_true (by omega)⟩]; exact gd_ret)
theorem nr_nv (b : Int → Int) (s : Int) (k : Nat) (h : ∀ j : Nat, j < k → 48 ≤ b (s + j) ∧ b (s + j) ≤ 57) : (0 ≤ nr b s k ∧ nr b s k ≤ 9999) ∧ nv b s k = min 1000 (nr b s k) := by
  induction k with
  | zero => exact ⟨⟨Int.le_refl _, by show (0 : Int) ≤ 9999; omega⟩, by show (0 : Int) = min 1000 0; omega⟩
  | succ k ih =>
    have h1 := ih (fun j hj => h j (by omega))
    have h2 := h k (by omega)
    show (0 ≤ (if nr b s k ≤ 999 then 10 * nr b s k + b (s + k) - 48 else nr b s k) ∧ (if nr b s k ≤ 999 then 10 * nr b s k + b (s + k) - 48 else nr b s k) ≤ 9999) ∧ min 1000 (nv b s k * 10 + b (s + k) - 48) = min 1000 (if nr b s k ≤ 999 then 10 * nr b s k + b (s + k) - 48 else nr b s k)
    split <;> omega
theorem s_X12_take_170 (h : srI ν b n p) (h16 : ν (-6916) 0 = 0) : gv g_X12_take_170 T ν (fun _ ν' => gfr [-6914, -6916] ν ν' ∧ ν' (-6914) 0 = rn (dgt b) n p ∧ (0 ≤ ν' (-6916) 0 ∧ ν' (-6916) 0 ≤ 9999) ∧ nv b p (rn (dgt b) n p - p).toNat = min 1000 (ν' (-6916) 0)) := by
  unfold g_X12_take_170
  refine gv_fx (fun (_ : Unit) τ => ∃ k : Nat, srI τ b n (p + k) ∧ gfr [-6914, -6916] ν τ ∧ τ (-6916) 0 = nr b p k ∧ rn (dgt b) n p = rn (dgt b) n (p + k) ∧ ∀ j : Nat, j < k → 48 ≤ b (p + j) ∧ b (p + j) ≤ 57) (fun _ τ => (n - τ (-6914) 0).toNat) ⟨0, by rw [show p + ((0 : Nat) : Int) = p by omega]; exact h, gfr.refl _ _, h16, by rw [show p + ((0 : Nat) : Int) = p by omega], fun j hj => by omega⟩ (by have := h.2.2.2.2.1; have := h.2.2.2.2.2.1; rw [h.2.2.2.1]; omega) ?_
  intro rec _ τ hI hrec
  obtain ⟨k, hS, hf, e5, er, hdg⟩ := hI
  obtain ⟨h7, h9, h1, h2, h3, h4, h5⟩ := id hS
  have hn := nr_nv b p k hdg
  unfold gB_X12_take_170
  refine gv_get ?_
  rw [h2]
  refine gv_tz (k1 := gret 0) (k2 := gret 0) (d_X12_isDigit hS h3) (fun c => gv_e1 (gv_get ?_)) (fun c => gv_e0 (gv_ret ?_))
  · have hb := of_decide_eq_true c.2
    have hgo : ∀ v : Int, v = nr b p (k + 1) → gv (g_X12_take_219 rec v) T τ (fun _ ν' => gfr [-6914, -6916] ν ν' ∧ ν' (-6914) 0 = rn (dgt b) n p ∧ (0 ≤ ν' (-6916) 0 ∧ ν' (-6916) 0 ≤ 9999) ∧ nv b p (rn (dgt b) n p - p).toNat = min 1000 (ν' (-6916) 0)) := fun v ev => by
      unfold g_X12_take_219
      refine gv_put (gv_get (gv_put (hrec _ _ ⟨k + 1, hS.mv (((gfr.refl _ _).up (by decide)).up (by decide)) ?_ (by omega), (hf.up (by decide)).up (by decide), ?_, ?_, fun j hj => ?_⟩ ?_)))
      · rw [gup_at, gup_ne (by decide), h2]; omega
      · rw [gup_ne (by decide), gup_at]; exact ev
      · rw [er, rn_yes c.1 c.2, show p + (k : Int) + 1 = p + ((k + 1 : Nat) : Int) by omega]
      · by_cases e : j = k
        · rw [e]; exact hb
        · exact hdg j (by omega)
      · rw [gup_at, gup_ne (by decide), h2]; omega
    rw [e5]
    refine gv_cb ⟨⟨by omega, by omega⟩, ⟨by omega, by omega⟩⟩ (fun c2 => gv_get (gv_get (gv_al (by omega) (hgo _ ?_)))) (fun c2 => gv_get (hgo _ ?_))
    · rw [e5, h2, h7 _ (by omega) (by omega)]
      show _ = if nr b p k ≤ 999 then 10 * nr b p k + b (p + k) - 48 else nr b p k
      rw [if_pos c2]
    · rw [e5]
      show _ = if nr b p k ≤ 999 then 10 * nr b p k + b (p + k) - 48 else nr b p k
      rw [if_neg c2]
  · have ern : rn (dgt b) n p = p + k := by
      rw [er]
      by_cases g : p + (k : Int) < n
      · exact rn_no (fun hh => c ⟨g, hh⟩)
      · exact rn_end (by omega)
    refine ⟨hf, by rw [ern]; exact h2, by rw [e5]; exact hn.1, ?_⟩
    rw [ern, show (p + (k : Int) - p).toNat = k by omega, e5]; exact hn.2
end
