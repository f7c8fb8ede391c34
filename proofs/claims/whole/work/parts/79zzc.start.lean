/-! THE START -/
theorem hz_k70 : ∀ y ∈ hz_D, y.2.1 < 70 := by decide +kernel
theorem hl_l70 : ∀ l ∈ hl_mems, l.length ≤ 70 := by decide +kernel
theorem hz_far {a k : Nat} (hk : 70 ≤ k) : hz_look hz_D a k = 0 := by
  have h : ∀ D : List (Nat × Nat × Int), (∀ y ∈ D, y.2.1 < 70) → hz_look D a k = 0 := by
    intro D
    induction D with
    | nil => intro _; rfl
    | cons y D ih =>
      intro hD
      have h1 := hD y List.mem_cons_self
      unfold hz_look
      rw [if_neg (fun hh => by omega), ih (fun z hz => hD z (List.mem_cons_of_mem _ hz))]
  exact h hz_D hz_k70
theorem hl_far {a k : Nat} (hk : 70 ≤ k) : hl_mem a k = 0 := by
  unfold hl_mem
  have hl : (hl_mems.getD a []).length ≤ 70 := by
    rw [List.getD_eq_getElem?_getD]
    match h : hl_mems[a]? with
    | none => show ([] : List Int).length ≤ 70; decide
    | some l =>
      show l.length ≤ 70
      exact hl_l70 l (List.mem_of_getElem? h)
  rw [List.getD_eq_getElem?_getD, List.getElem?_eq_none (by omega)]; rfl
theorem hz_all {a k : Nat} (ha : a < 105) : hz_look hz_D a k = hl_mem a k := by
  by_cases c : k < 70
  · exact hz_tab a ha k c
  · rw [hz_far (by omega), hl_far (by omega)]
def nu0 (μ : Nat → Nat → Int) : gN := fun b j => if 0 ≤ b then (if 0 ≤ j then μ b.toNat j.toNat else 0) else (if j = 0 then μ ((-b) / 100).toNat ((-b) % 100).toNat else 0)
theorem nlR_le (f : Int → Int) : ∀ n : Nat, nlR f n ≤ n := by
  intro n
  induction n with
  | zero => exact Nat.le_refl _
  | succ n ih => show nlR f n + _ ≤ n + 1; split <;> omega
section
variable {L : Nat} {ρ : Nat → Int} {σ : hf_S}
theorem s_fld (h : hz 104 626695 hz_D (20, L) ρ σ) {b : Int} (a k : Nat) {v : Int} (ha : 1 ≤ a ∧ a ≤ 104) (hk : k < 100) (hb : b = -(100 * (a : Int) + (k : Int))) (hv : hl_mem a k = v) : nu0 σ.2.2 b 0 = v := by
  unfold nu0
  rw [if_neg (by omega), if_pos rfl, show ((-b) / 100).toNat = a by omega, show ((-b) % 100).toNat = k by omega, h.2.2.2.1 a ha.1 ha.2, hz_all (by omega), hv]
theorem s_row (h : hz 104 626695 hz_D (20, L) ρ σ) (a : Nat) (ha : 1 ≤ a ∧ a ≤ 104) {j : Int} (hj : 0 ≤ j) : nu0 σ.2.2 a j = hl_mem a j.toNat := by
  unfold nu0
  rw [if_pos (by omega), if_pos hj, Int.toNat_natCast, h.2.2.2.1 a ha.1 ha.2, hz_all (by omega)]
theorem s_gQ (h : hz 104 626695 hz_D (20, L) ρ σ) : gQ (σ.1, σ.2.1) σ.2.2 (nu0 σ.2.2) := by
  refine ⟨h.hl.1, by show (σ.2.1 0).1 = 20; rw [h.2.2.2.2.1], fun a k h1 h2 h3 => ?_, fun a k h1 => ?_⟩
  · unfold nu0
    rw [if_neg (by omega), if_pos rfl, show ((-(-(100 * (a : Int) + (k : Int)))) / 100).toNat = a by omega, show ((-(-(100 * (a : Int) + (k : Int)))) % 100).toNat = k by omega]
  · unfold nu0
    rw [if_pos (by omega), if_pos (by omega), Int.toNat_natCast, Int.toNat_natCast]
theorem s_iSt (h : hz 104 626695 hz_D (20, L) ρ σ) : iSt (nu0 σ.2.2) := by
  have r : ∀ (a : Nat) (n : Nat) (P : Int → Prop), (1 ≤ a ∧ a ≤ 104) → (∀ m : Nat, m < n → P (hl_mem a m)) → ∀ k : Int, 0 ≤ k → k < n → P (nu0 σ.2.2 a k) := fun a n P ha hP k h1 h2 => by rw [s_row h a ha h1]; exact hP _ (by omega)
  have e : ∀ (a a' : Nat) (n : Nat), (1 ≤ a ∧ a ≤ 104) → (1 ≤ a' ∧ a' ≤ 104) → (∀ m : Nat, m < n → hl_mem a m = hl_mem a' m) → ∀ k : Int, 0 ≤ k → k < n → nu0 σ.2.2 a k = nu0 σ.2.2 a' k := fun a a' n ha ha' hP k h1 h2 => by rw [s_row h a ha h1, s_row h a' ha' h1]; exact hP _ (by omega)
  have v200 : nu0 σ.2.2 (-200) 0 = 20 := s_fld h 2 0 (by decide) (by decide) (by decide) (by decide)
  have v204 : nu0 σ.2.2 (-204) 0 = 1 := s_fld h 2 4 (by decide) (by decide) (by decide) (by decide)
  have v205 : nu0 σ.2.2 (-205) 0 = 0 := s_fld h 2 5 (by decide) (by decide) (by decide) (by decide)
  have v03 : nu0 σ.2.2 (-6903) 0 = 20 := s_fld h 69 3 (by decide) (by decide) (by decide) (by decide)
  have v08 : nu0 σ.2.2 (-6908) 0 = 1 := s_fld h 69 8 (by decide) (by decide) (by decide) (by decide)
  have v09 : nu0 σ.2.2 (-6909) 0 = 0 := s_fld h 69 9 (by decide) (by decide) (by decide) (by decide)
  unfold iSt
  rw [v200, v204, v205, v03, v08, v09]
  refine ⟨by decide, fun k h1 h2 => ⟨?_, ?_, ?_⟩, ?_, by decide, by decide, rfl, fun k h1 h2 => ⟨?_, ?_, ?_⟩, ?_, rfl, rfl⟩
  · exact r 3 3 (fun v => -9 ≤ v ∧ v ≤ 9) (by decide) (by decide) k h1 h2
  · exact r 4 3 (fun v => 0 ≤ v ∧ v ≤ 4) (by decide) (by decide) k h1 h2
  · exact r 5 3 (fun v => 0 ≤ v ∧ v ≤ 99) (by decide) (by decide) k h1 h2
  · exact fun t h1 h2 => r 6 41 (fun v => 0 ≤ v ∧ v ≤ 99) (by decide) (by decide) t h1 h2
  · exact e 71 3 3 (by decide) (by decide) (by decide) k h1 h2
  · exact e 72 4 3 (by decide) (by decide) (by decide) k h1 h2
  · exact e 73 5 3 (by decide) (by decide) (by decide) k h1 h2
  · exact fun t h1 h2 => e 74 6 41 (by decide) (by decide) (by decide) t h1 h2
theorem s_iTp (h : hz 104 626695 hz_D (20, L) ρ σ) : iTp (nu0 σ.2.2) := by
  have v102 : nu0 σ.2.2 (-102) 0 = 0 := s_fld h 1 2 (by decide) (by decide) (by decide) (by decide)
  have v01 : nu0 σ.2.2 (-6901) 0 = 0 := s_fld h 69 1 (by decide) (by decide) (by decide) (by decide)
  unfold iTp
  rw [v102, v01]
  refine ⟨by decide, rfl, fun i h1 h2 => ?_⟩
  have e7 : nu0 σ.2.2 7 i = 0 := s_row h 7 (by decide) h1
  have e70 : nu0 σ.2.2 70 i = 0 := s_row h 70 (by decide) h1
  rw [e7, e70]; decide
theorem s_iWd (h : hz 104 626695 hz_D (20, L) ρ σ) : iWd (nu0 σ.2.2) := by
  have k1 : ∀ i : Nat, i < 15 → (∀ j : Nat, j < hf_slen.getD i 0 → hl_mem 75 (woff i + (j : Int)).toNat = hf_sch (pm i) j) ∧ hl_mem 75 (woff i + ((hf_slen.getD i 0 : Nat) : Int)).toNat = 32 := by decide +kernel
  intro i hi
  have hw := woff_in i (by omega)
  refine ⟨fun j hj => ?_, ?_⟩
  · have e : nu0 σ.2.2 75 (woff i + (j : Int)) = hl_mem 75 (woff i + (j : Int)).toNat := s_row h 75 (by decide) (by omega)
    rw [e]; exact (k1 i hi).1 j hj
  · have e : nu0 σ.2.2 75 (woff i + ((hf_slen.getD i 0 : Nat) : Int)) = hl_mem 75 (woff i + ((hf_slen.getD i 0 : Nat) : Int)).toNat := s_row h 75 (by decide) (by omega)
    rw [e]; exact (k1 i hi).2
theorem s_iPl (h : hz 104 626695 hz_D (20, L) ρ σ) : iPl (nu0 σ.2.2) := by
  have v104 : nu0 σ.2.2 (-104) 0 = 18 := s_fld h 1 4 (by decide) (by decide) (by decide) (by decide)
  have v105 : nu0 σ.2.2 (-105) 0 = 23 := s_fld h 1 5 (by decide) (by decide) (by decide) (by decide)
  have v106 : nu0 σ.2.2 (-106) 0 = 0 := s_fld h 1 6 (by decide) (by decide) (by decide) (by decide)
  have v811 : nu0 σ.2.2 (-811) 0 = 0 := s_fld h 8 11 (by decide) (by decide) (by decide) (by decide)
  have v812 : nu0 σ.2.2 (-812) 0 = -1 := s_fld h 8 12 (by decide) (by decide) (by decide) (by decide)
  have v11 : nu0 σ.2.2 (-6911) 0 = 0 := s_fld h 69 11 (by decide) (by decide) (by decide) (by decide)
  have v12 : nu0 σ.2.2 (-6912) 0 = -1 := s_fld h 69 12 (by decide) (by decide) (by decide) (by decide)
  have v18 : nu0 σ.2.2 (-6918) 0 = 0 := s_fld h 69 18 (by decide) (by decide) (by decide) (by decide)
  have v19 : nu0 σ.2.2 (-6919) 0 = 0 := s_fld h 69 19 (by decide) (by decide) (by decide) (by decide)
  have v20 : nu0 σ.2.2 (-6920) 0 = 0 := s_fld h 69 20 (by decide) (by decide) (by decide) (by decide)
  have p0 : nu0 σ.2.2 (-(100 * 18 + 0)) 0 = 0 := s_fld h 18 0 (by decide) (by decide) (by decide) (by decide)
  have p1 : nu0 σ.2.2 (-(100 * 18 + 1)) 0 = 0 := s_fld h 18 1 (by decide) (by decide) (by decide) (by decide)
  unfold iPl
  rw [v104, v105, v106, v811, v812, v11, v12, v18, v19, v20, p0, p1]
  obtain ⟨S, s7, s2, s8, s11, s12, s13⟩ : ∃ S : gN, S 7 0 = 0 ∧ S 2 0 = 0 ∧ S 8 = nu0 σ.2.2 (18 + 4) ∧ S 11 = nu0 σ.2.2 (18 + 1) ∧ S 12 = nu0 σ.2.2 (18 + 2) ∧ S 13 = nu0 σ.2.2 (18 + 3) := ⟨fun r => if r = 8 then nu0 σ.2.2 (18 + 4) else if r = 11 then nu0 σ.2.2 (18 + 1) else if r = 12 then nu0 σ.2.2 (18 + 2) else if r = 13 then nu0 σ.2.2 (18 + 3) else fun _ => 0, rfl, rfl, rfl, rfl, rfl, rfl⟩
  exact ⟨Or.inl ⟨rfl, rfl⟩, ⟨rfl, rfl, by decide, by decide⟩, ⟨rfl, Or.inl rfl⟩, rfl, rfl, S, ⟨p0.trans s7.symm, p1.trans s2.symm, s8.symm, s11.symm, s12.symm, s13.symm⟩, ⟨by omega, by omega, fun j h1 h2 => by omega, fun i h1 h2 => by omega⟩, fun i hi => by omega, fun i h1 h2 => by omega⟩
theorem s_iAll (h : hz 104 626695 hz_D (20, L) ρ σ) : iAll 0 (σ.1, σ.2.1) (nu0 σ.2.2) := by
  have v5300 : nu0 σ.2.2 (-5300) 0 = 0 := s_fld h 53 0 (by decide) (by decide) (by decide) (by decide)
  have v57 : nu0 σ.2.2 (-6957) 0 = 0 := s_fld h 69 57 (by decide) (by decide) (by decide) (by decide)
  have v114 : nu0 σ.2.2 (-114) 0 = 0 := s_fld h 1 14 (by decide) (by decide) (by decide) (by decide)
  have v63 : nu0 σ.2.2 (-6963) 0 = 0 := s_fld h 69 63 (by decide) (by decide) (by decide) (by decide)
  have v3902 : nu0 σ.2.2 (-3902) 0 = 0 := s_fld h 39 2 (by decide) (by decide) (by decide) (by decide)
  have v3903 : nu0 σ.2.2 (-3903) 0 = -1 := s_fld h 39 3 (by decide) (by decide) (by decide) (by decide)
  have v3904 : nu0 σ.2.2 (-3904) 0 = -1 := s_fld h 39 4 (by decide) (by decide) (by decide) (by decide)
  have v3906 : nu0 σ.2.2 (-3906) 0 = 0 := s_fld h 39 6 (by decide) (by decide) (by decide) (by decide)
  have v207 : nu0 σ.2.2 (-207) 0 = 0 := s_fld h 2 7 (by decide) (by decide) (by decide) (by decide)
  have v4600 : nu0 σ.2.2 (-4600) 0 = 47 := s_fld h 46 0 (by decide) (by decide) (by decide) (by decide)
  have v4601 : nu0 σ.2.2 (-4601) 0 = 48 := s_fld h 46 1 (by decide) (by decide) (by decide) (by decide)
  have v4602 : nu0 σ.2.2 (-4602) 0 = 49 := s_fld h 46 2 (by decide) (by decide) (by decide) (by decide)
  have v5100 : nu0 σ.2.2 (-5100) 0 = 52 := s_fld h 51 0 (by decide) (by decide) (by decide) (by decide)
  have v5101 : nu0 σ.2.2 (-5101) 0 = 0 := s_fld h 51 1 (by decide) (by decide) (by decide) (by decide)
  have r40 : ∀ i : Int, 0 ≤ i → nu0 σ.2.2 40 i = 0 := fun i hi => s_row h 40 (by decide) hi
  have r41 : ∀ i : Int, 0 ≤ i → nu0 σ.2.2 41 i = 0 := fun i hi => s_row h 41 (by decide) hi
  have r54 : ∀ i : Int, 0 ≤ i → nu0 σ.2.2 54 i = 0 := fun i hi => s_row h 54 (by decide) hi
  have r44 : nu0 σ.2.2 44 0 = 0 := s_row h 44 (by decide) (by decide)
  have r92 : nu0 σ.2.2 92 0 = 0 := s_row h 92 (by decide) (by decide)
  have e1 := h.1
  have e3 := h.2.2.1
  have l52 : σ.2.1 52 = (22, 0) := by rw [e3 52 (by decide) (by decide)]; decide
  refine ⟨s_iSt h, s_iTp h, s_iWd h, s_iPl h, ?_, iHd_off v114 v63, ?_, ?_, ?_, ?_⟩
  · unfold iNt nC
    rw [v5300, v57]
    exact ⟨⟨by decide, by decide, fun i a b => by omega⟩, rfl, fun i a b => by rw [r54 i a]; decide, fun i a b => by omega, fun i a b => by omega⟩
  · unfold iBs iBr
    rw [v3902, v3903, v3904, v3906, v207, r44, r92]
    exact ⟨⟨fun c a b => Or.inl (r40 c a), fun c c' a b a' b' _ hn => absurd (r40 c a) hn, fun c a b => by rw [r41 c a]; decide, by decide⟩, by decide, by decide, by decide, by decide, rfl, rfl, fun g => absurd g (by decide)⟩
  · exact Or.inl ⟨v4600, by rw [v4601]; decide, by rw [v4602]; decide⟩
  · have l52' : (((σ.1, σ.2.1) : gT).2 (52 : Int).toNat) = (22, 0) := l52
    unfold iLs
    rw [v5100, v5101, l52']
    exact ⟨⟨by decide, by show (52 : Int).toNat ≤ σ.1; rw [e1]; decide, by rw [l52']⟩, Or.inl rfl, fun g => absurd rfl g, by decide, fun z hz => by omega, fun z _ hz => absurd hz (Nat.not_lt_zero _)⟩
  · refine ⟨⟨by show 104 ≤ σ.1; omega, fun a h1 h2 => e3 a h1 h2⟩, fun b hb => ?_, by rw [v207]; decide, by rw [v3902]; decide, by show σ.1 ≤ 104 + 130 * 0; omega, ?_⟩
    · obtain ⟨c, c1, c2, c3, c4⟩ := hb
      rw [r40 c c1] at c3
      exact absurd c3.symm c4
    · have l52' : (((σ.1, σ.2.1) : gT).2 (52 : Int).toNat) = (22, 0) := l52
      have g1 : gsl (σ.1, σ.2.1) = 626695 := h.2.1
      have g2 : wks3 (nu0 σ.2.2) = 3403 := if_pos v4600
      have g3 : lsp (σ.1, σ.2.1) (nu0 σ.2.2) = 131072 := by unfold lsp; rw [v5100, l52']; decide
      have g4 : bsP (nu0 σ.2.2) ≤ 107625 := by unfold bsP; have := nlR_le (nu0 σ.2.2 40) 125; omega
      omega
end
