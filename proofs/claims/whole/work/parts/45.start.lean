/-! WHAT HOLDS AFTER THE CONSTRUCTORS -/
def hz_D : List (Nat × Nat × Int) := d_z_X12_init_69 (d_z_X11_init_1 [])
theorem hz_0 (L : Nat) (xs : Nat → Int32) : hz 0 0 [] (20, L) (fun j => (xs j).toInt) (hs_σ L xs) :=
  ⟨rfl, rfl, fun a h1 h2 => by omega, fun a h1 h2 => by omega, rfl, rfl, fun x hx => by cases hx⟩
theorem hz_first (L : Nat) (xs : Nat → Int32) : hw hz_pre (hs_σ L xs) (fun v σ => v = (1, 69, 104) ∧ hz 104 626695 hz_D (20, L) (fun j => (xs j).toInt) σ) := by
  have h := hz_0 L xs
  unfold hz_pre
  refine hz_nw 1 1 15 h rfl rfl rfl (by decide) (by decide) rfl (fun τ h => ?_)
  refine hw_call (hw_ob (h.is (by decide) (by decide) rfl) (z_X11_init_1 h)) (fun _ τ h => ?_)
  refine hz_nw 69 69 _ h rfl rfl rfl (by decide) (by decide) rfl (fun τ h => ?_)
  refine hw_call (hw_ob (h.is (by decide) (by decide) rfl) (z_X12_init_69 h)) (fun _ τ h => ?_)
  refine hz_na (by decide) ?_
  refine hz_nw 104 104 626695 h rfl rfl rfl (by decide) (by decide) rfl (fun τ h => ?_)
  exact hw_ret ⟨rfl, h⟩
theorem hz_c1 : ∀ x ∈ hz_D, hl_mem x.1 x.2.1 = x.2.2 := by decide +kernel
def hz_c2b : Bool := (List.range 105).all (fun a => (List.range 70).all (fun k => hl_mem a k == 0 || hz_D.any (fun x => Nat.beq a x.1 && Nat.beq k x.2.1)))
theorem hz_c2 : hz_c2b = true := by decide +kernel
theorem hz_look_or (M : Nat → Nat → Int) (a k : Nat) : ∀ D : List (Nat × Nat × Int), (∀ x ∈ D, M x.1 x.2.1 = x.2.2) → hz_look D a k = M a k ∨ (hz_look D a k = 0 ∧ ∀ x ∈ D, ¬ (a = x.1 ∧ k = x.2.1)) := by
  intro D
  induction D with
  | nil => intro _; exact Or.inr ⟨rfl, fun x hx => by cases hx⟩
  | cons x D ih =>
    intro h
    by_cases e : a = x.1 ∧ k = x.2.1
    · left
      show (if a = x.1 ∧ k = x.2.1 then x.2.2 else hz_look D a k) = M a k
      rw [if_pos e, e.1, e.2, h x List.mem_cons_self]
    · have e2 : hz_look (x :: D) a k = hz_look D a k := by
        show (if a = x.1 ∧ k = x.2.1 then x.2.2 else hz_look D a k) = _
        rw [if_neg e]
      rcases ih (fun y hy => h y (List.mem_cons_of_mem _ hy)) with g | ⟨g1, g2⟩
      · left; rw [e2]; exact g
      · right
        refine ⟨by rw [e2]; exact g1, fun y hy => ?_⟩
        rcases List.mem_cons.mp hy with rfl | hy
        · exact e
        · exact g2 y hy
theorem hz_tab : ∀ a, a < 105 → ∀ k, k < 70 → hz_look hz_D a k = hl_mem a k := by
  intro a ha k hk
  rcases hz_look_or hl_mem a k hz_D hz_c1 with h | ⟨h1, h2⟩
  · exact h
  · have h := hz_c2
    unfold hz_c2b at h
    have h3 := List.all_eq_true.mp (List.all_eq_true.mp h a (List.mem_range.mpr ha)) k (List.mem_range.mpr hk)
    rcases Bool.or_eq_true_iff.mp h3 with h4 | h4
    · rw [h1]; exact (eq_of_beq h4).symm
    · obtain ⟨x, hx, hb⟩ := List.any_eq_true.mp h4
      rw [Bool.and_eq_true] at hb
      exact absurd ⟨Nat.eq_of_beq_eq_true hb.1, Nat.eq_of_beq_eq_true hb.2⟩ (h2 x hx)
theorem hl_ptr_tab : ∀ a, a < 105 → ∀ k, k < 70 → hl_ptr a k ≠ 0 → hl_mem a k = hl_ptr a k := by decide +kernel
theorem hl_ptr_len : hl_ptrs.length = 105 ∧ (∀ l ∈ hl_ptrs, l.length < 70) ∧ hl_ptrs.getD 0 [] = [] := by decide +kernel
theorem hl_ptr_in {a k : Nat} (h : hl_ptr a k ≠ 0) : 1 ≤ a ∧ a < 105 ∧ k < 70 := by
  have ha : a < 105 := by
    apply Nat.lt_of_not_le
    intro hc
    apply h
    unfold hl_ptr
    have e : hl_ptrs.getD a [] = [] := by
      rw [List.getD_eq_getElem?_getD, List.getElem?_eq_none (by rw [hl_ptr_len.1]; exact hc)]
      rfl
    rw [e]; rfl
  refine ⟨?_, ha, ?_⟩
  · rcases Nat.eq_zero_or_pos a with e | e
    · exact absurd (by unfold hl_ptr; rw [e, hl_ptr_len.2.2]; rfl) h
    · exact e
  · apply Nat.lt_of_not_le
    intro hc
    apply h
    unfold hl_ptr
    have hl : hl_ptrs.getD a [] ∈ hl_ptrs := by
      rw [List.getD_eq_getElem?_getD, List.getElem?_eq_getElem (by rw [hl_ptr_len.1]; exact ha)]
      exact List.getElem_mem _
    rw [List.getD_eq_getElem?_getD, List.getElem?_eq_none (Nat.le_trans (Nat.le_of_lt (hl_ptr_len.2.1 _ hl)) hc)]
    rfl
theorem hz.hl {L : Nat × Nat} {ρ : Nat → Int} {σ : hf_S} (h : hz 104 626695 hz_D L ρ σ) : hl σ ∧ (∀ a, 1 ≤ a → a < 105 → ∀ k, k < 70 → σ.2.2 a k = hl_mem a k) := by
  obtain ⟨g1, g2, g3, g4, g5, g6, g7⟩ := h
  have hm : ∀ a, 1 ≤ a → a < 105 → ∀ k, k < 70 → σ.2.2 a k = hl_mem a k := fun a h1 h2 k hk => by rw [g4 a h1 (by omega), hz_tab a h2 k hk]
  refine ⟨⟨by omega, g3, fun a k hp => ?_⟩, hm⟩
  obtain ⟨p1, p2, p3⟩ := hl_ptr_in hp
  rw [hm a p1 p2 k p3, hl_ptr_tab a p2 k p3 hp]
