/-! THE LAW ANSWERS TRUE -/
theorem pure_key {F : Int → Int → Int → Int → hf_M Int} {m : hf_M (Int × Int × Int)} {τ σ σ' : hf_S} (h1 : m τ = some ((1, 69, 104), σ)) (h2 : F 1 69 104 0 σ = some (1, σ')) : hf_bd m (fun v => F v.1 v.2.1 v.2.2 0) τ = some (1, σ') := by
  unfold hf_bd
  rw [h1]
  exact h2
theorem pure_gr {f : hf_M Int} {g : gM Int} (hr : gr f g) {σ : hf_S} {ν : gN} (hq : gQ (σ.1, σ.2.1) σ.2.2 ν) {r : Int} {s : gS} (hg : g ((σ.1, σ.2.1), ν) = some (r, s)) : ∃ σ', f σ = some (r, σ') := by
  obtain ⟨μ', k1, _⟩ := hr (σ.1, σ.2.1) σ.2.2 ν hq r s hg
  exact ⟨_, k1⟩
theorem scr_first {L : Nat} {xs : Nat → Int32} {σ : hf_S} (h : hz 104 626695 hz_D (20, L) (fun j => (xs j).toInt) σ) : scr L (σ.1, σ.2.1) (nu0 σ.2.2) := by
  refine ⟨by show (σ.2.1 0).2 = L; rw [h.2.2.2.2.1], fun i a b => ?_⟩
  have e : nu0 σ.2.2 0 i = (xs i.toNat).toInt := by
    unfold nu0
    rw [if_pos (by decide), if_pos a]
    show σ.2.2 0 i.toNat = _
    rw [h.2.2.2.2.2.1]
  rw [e]
  have g1 := Int32.minValue_le_toInt (xs i.toNat)
  have g2 := Int32.toInt_lt (xs i.toNat)
  have : Int32.minValue.toInt = -2147483648 := by decide
  unfold inI
  omega
theorem law_pure (L : Nat) (xs : Nat → Int32) (hL : L ≤ 3072) : ∃ σ' : hf_S, f_L_law (hs_σ L xs) = some (1, σ') := by
  obtain ⟨v, σ, h1, h2, h⟩ := hz_first L xs
  rw [h2] at h1
  obtain ⟨r, T', ν', g1, g2⟩ := law_flat hL (scr_first h) (s_iAll h)
  have e : r = 1 := g2
  rw [e] at g1
  obtain ⟨σ', k1⟩ := pure_gr (r_L_law_23 0) (s_gQ h) g1
  refine ⟨σ', ?_⟩
  rw [hz_law]
  exact pure_key h1 k1
