/-! THE LAYOUT after the constructors: printed by laygen.py -/
def hl_lays : List (Nat × Nat) := [(0, 0), (11, 15), (8, 8), (20, 3), (20, 3), (20, 3), (20, 41), (20, 400), (5, 13), (9, 6), (20, 0), (4, 6), (20, 12), (20, 12), (20, 12), (20, 64), (20, 72), (23, 9), (4, 6), (20, 12), (20, 12), (20, 12), (20, 64), (4, 6), (20, 12), (20, 12), (20, 12), (20, 64), (6, 4), (1, 14), (20, 3), (20, 200), (20, 200), (20, 200), (20, 200), (20, 200), (20, 200), (7, 3), (21, 64), (0, 18), (24, 125), (20, 125), (20, 3), (20, 3), (20, 42), (20, 100), (10, 6), (20, 0), (20, 0), (20, 0), (20, 10), (2, 2), (22, 0), (3, 8), (20, 40), (20, 40), (20, 40), (23, 40), (20, 40), (23, 40), (23, 41), (1, 14), (20, 3), (20, 100), (20, 100), (20, 100), (20, 100), (20, 100), (20, 100), (12, 69), (20, 400), (20, 3), (20, 3), (20, 3), (20, 41), (20, 69), (20, 128), (20, 128), (20, 128), (20, 24), (20, 24), (20, 24), (20, 24), (20, 24), (20, 96), (20, 96), (21, 9), (21, 64), (20, 200), (20, 200), (20, 200), (21, 210125), (20, 42), (20, 344605), (20, 410), (20, 65536), (20, 40), (20, 40), (20, 40), (23, 40), (23, 40), (20, 100), (20, 100), (20, 100), (21, 1)]
def hl_lay (a : Nat) : Nat × Nat := hl_lays.getD a (0, 0)
/-- the numbers of the fields that never change after the constructors; 0: it may change -/
def hl_ptrs : List (List Int) := [[], [2, 7, 0, 8, 0, 0, 0, 28, 39, 46, 50, 51, 53, 61, 0], [0, 3, 4, 5, 0, 0, 6, 0], [], [], [], [], [], [9, 0, 16, 0, 0, 0, 0, 0, 17, 0, 0, 0, 0], [], [], [0, 0, 12, 13, 14, 15], [], [], [], [], [], [], [0, 0, 19, 20, 21, 22], [], [], [], [], [0, 0, 24, 25, 26, 27], [], [], [], [], [29, 37, 0, 0], [200, 31, 32, 33, 34, 35, 36, 30, 0, 0, 0, 0, 0, 0], [], [], [], [], [], [], [], [38, 0, 0], [], [40, 41, 0, 0, 0, 0, 0, 0, 0, 42, 43, 44, 45, 0, 0, 0, 0, 0], [], [], [], [], [], [], [], [], [], [], [], [], [], [0, 54, 55, 56, 57, 58, 59, 60], [], [], [], [], [], [], [], [100, 63, 64, 65, 66, 67, 68, 62, 0, 0, 0, 0, 0, 0], [], [], [], [], [], [], [], [70, 0, 0, 0, 71, 72, 73, 74, 0, 0, 75, 0, 0, 0, 0, 0, 0, 0, 0, 0, 0, 0, 0, 76, 77, 78, 79, 80, 81, 82, 83, 84, 85, 0, 0, 0, 0, 0, 0, 86, 87, 0, 0, 0, 0, 0, 0, 88, 89, 90, 91, 92, 0, 0, 93, 94, 95, 0, 96, 97, 98, 99, 100, 0, 0, 0, 101, 102, 103], [], [], [], [], [], [105, 102, 32, 102, 97, 108, 108, 32, 115, 116, 111, 112, 32, 97, 110, 100, 32, 111, 114, 32, 110, 111, 116, 32, 108, 111, 119, 32, 104, 105, 103, 104, 32, 115, 112, 97, 110, 32, 102, 97, 108, 108, 115, 32, 108, 97, 115, 116, 32, 98, 114, 111, 107, 101, 32, 111, 110, 101, 32, 116, 119, 111, 32, 116, 104, 114, 101, 101, 32], [], [], [], [], [], [], [], [], [], [], [], [], [], [], [], [], [], [], [], [], [], [], [], [], [], [], [], [], []]
def hl_ptr (a k : Nat) : Int := (hl_ptrs.getD a []).getD k 0
/-- the first 70 numbers of each cell after the constructors -/
def hl_mems : List (List Int) := [[], [2, 7, 0, 8, 18, 23, 0, 28, 39, 46, 50, 51, 53, 61], [20, 3, 4, 5, 1, 0, 6], [], [2], [1, 1, 1], [1, 1, 1, 1, 1, 1, 1, 1, 1, 1, 1, 1, 1, 1, 1, 1, 1, 1, 1, 1, 1, 1, 1, 1, 1, 1, 1, 1, 1, 1, 1, 1, 1, 1, 1, 1, 1, 1, 1, 1, 1], [], [9, 11, 16, 0, 0, 0, 0, 0, 17, 0, 0, 0, -1], [10], [], [0, 0, 12, 13, 14, 15], [], [], [], [], [], [], [0, 0, 19, 20, 21, 22], [], [], [], [], [0, 0, 24, 25, 26, 27], [], [], [], [], [29, 37, 3, -1], [200, 31, 32, 33, 34, 35, 36, 30], [], [], [], [], [], [], [], [38], [], [40, 41, 0, -1, -1, 0, 0, 0, 0, 42, 43, 44, 45, -1, -1, 1000000000, -1, -1], [], [], [], [], [], [], [47, 48, 49], [], [], [], [], [52], [], [0, 54, 55, 56, 57, 58, 59, 60], [], [], [], [], [], [], [], [100, 63, 64, 65, 66, 67, 68, 62], [], [], [], [], [], [], [], [70, 0, 0, 20, 71, 72, 73, 74, 1, 0, 75, 0, -1, 0, 0, 0, 0, 0, 0, 0, 0, 0, 0, 76, 77, 78, 79, 80, 81, 82, 83, 84, 85, 0, 0, 0, 0, 0, 0, 86, 87, 0, 0, 0, 0, 0, 0, 88, 89, 90, 91, 92, 0, 0, 93, 94, 95, 0, 96, 97, 98, 99, 100, 0, 0, 0, 101, 102, 103], [], [], [2], [1, 1, 1], [1, 1, 1, 1, 1, 1, 1, 1, 1, 1, 1, 1, 1, 1, 1, 1, 1, 1, 1, 1, 1, 1, 1, 1, 1, 1, 1, 1, 1, 1, 1, 1, 1, 1, 1, 1, 1, 1, 1, 1, 1], [105, 102, 32, 102, 97, 108, 108, 32, 115, 116, 111, 112, 32, 97, 110, 100, 32, 111, 114, 32, 110, 111, 116, 32, 108, 111, 119, 32, 104, 105, 103, 104, 32, 115, 112, 97, 110, 32, 102, 97, 108, 108, 115, 32, 108, 97, 115, 116, 32, 98, 114, 111, 107, 101, 32, 111, 110, 101, 32, 116, 119, 111, 32, 116, 104, 114, 101, 101, 32], [], [], [], [], [], [], [], [], [], [], [], [], [], [], [], [], [], [], [], [], [], [], [], [], [], [], [], [], []]
def hl_mem (a k : Nat) : Int := (hl_mems.getD a []).getD k 0
/-- the layout and the fields that stay -/
def hl (σ : hf_S) : Prop := 104 ≤ σ.1 ∧ (∀ a, 1 ≤ a → a ≤ 104 → σ.2.1 a = hl_lay a) ∧ (∀ a k, hl_ptr a k ≠ 0 → σ.2.2 a k = hl_ptr a k)
/-! SAME BUT FOR THE SCRIPT: no program of the constructors sees row 0 -/
def hr (σ τ : hf_S) : Prop := σ.1 = τ.1 ∧ (∀ a, 1 ≤ a → σ.2.1 a = τ.2.1 a) ∧ (∀ a, 1 ≤ a → σ.2.2 a = τ.2.2 a) ∧ σ.2.1 0 = σ.2.1 0
def ho {α : Type} (m : hf_M α) : Prop := ∀ (σ τ : hf_S) (r : α) (τ' : hf_S), hr σ τ → m τ = some (r, τ') → ∃ σ', m σ = some (r, σ') ∧ hr σ' τ' ∧ σ'.2.1 0 = σ.2.1 0 ∧ σ'.2.2 0 = σ.2.2 0
theorem hr.is {σ τ : hf_S} (h : hr σ τ) {tg : Nat} {o : Int} (hi : hf_is τ tg o) : hf_is σ tg o := by
  obtain ⟨h1, h2, h3⟩ := hi
  refine ⟨h1, by rw [h.1]; exact h2, ?_⟩
  rw [h.2.1 _ (by omega)]; exact h3
theorem hr.sum {σ τ : hf_S} (h : hr σ τ) : ∀ n, hf_sum (fun a => (σ.2.1 a).2) n = hf_sum (fun a => (τ.2.1 a).2) n := by
  intro n
  induction n with
  | zero => rfl
  | succ n ih =>
    show hf_sum _ n + (σ.2.1 (n + 1)).2 = hf_sum _ n + (τ.2.1 (n + 1)).2
    rw [ih, h.2.1 _ (by omega)]
theorem hr.sl {σ τ : hf_S} (h : hr σ τ) : hf_sl σ = hf_sl τ := by
  show hf_sum (fun a => (σ.2.1 a).2) σ.1 = hf_sum (fun a => (τ.2.1 a).2) τ.1
  rw [h.sum, h.1]
section HO
variable {α β : Type}
theorem ho_ret {a : α} : ho (hf_ret a) := by
  intro σ τ r τ' h e
  cases e
  exact ⟨σ, rfl, h, rfl, rfl⟩
theorem ho_bd {m : hf_M β} {f : β → hf_M α} (h1 : ho m) (h2 : ∀ b, ho (f b)) : ho (hf_bd m f) := by
  intro σ τ r τ' h e
  unfold hf_bd at e
  cases hm : m τ with
  | none => rw [hm] at e; cases e
  | some x =>
    obtain ⟨b, τ1⟩ := x
    rw [hm] at e
    obtain ⟨σ1, g1, g2, g3, g4⟩ := h1 σ τ b τ1 h hm
    obtain ⟨σ2, k1, k2, k3, k4⟩ := h2 b σ1 τ1 r τ' g2 e
    exact ⟨σ2, by unfold hf_bd; rw [g1]; exact k1, k2, k3.trans g3, k4.trans g4⟩
theorem ho_pf {tg k : Nat} {o v : Int} : ho (hf_pf tg k o v) := by
  intro σ τ r τ' h e
  unfold hf_pf at e
  by_cases hi : hf_is τ tg o
  · rw [if_pos hi] at e
    cases e
    refine ⟨(σ.1, σ.2.1, hf_up σ.2.2 o.toNat k v), by unfold hf_pf; rw [if_pos (h.is hi)], ⟨h.1, h.2.1, fun a ha => ?_, rfl⟩, rfl, ?_⟩
    · show hf_up σ.2.2 o.toNat k v a = hf_up τ.2.2 o.toNat k v a
      funext j; unfold hf_up; rw [h.2.2.1 a ha]
    · have := hi.1
      exact hw_up_ne (by omega)
  · rw [if_neg hi] at e; cases e
theorem ho_as {tg : Nat} {o i v : Int} : ho (hf_as tg o i v) := by
  intro σ τ r τ' h e
  unfold hf_as at e
  by_cases hi : hf_is τ tg o ∧ 0 ≤ i ∧ i < (τ.2.1 o.toNat).2
  · rw [if_pos hi] at e
    cases e
    have h0 := hi.1.1
    refine ⟨(σ.1, σ.2.1, hf_up σ.2.2 o.toNat i.toNat v), by unfold hf_as; rw [if_pos ⟨h.is hi.1, hi.2.1, by rw [h.2.1 _ (by omega)]; exact hi.2.2⟩], ⟨h.1, h.2.1, fun a ha => ?_, rfl⟩, rfl, hw_up_ne (by omega)⟩
    show hf_up σ.2.2 o.toNat i.toNat v a = hf_up τ.2.2 o.toNat i.toNat v a
    funext j; unfold hf_up; rw [h.2.2.1 a ha]
  · rw [if_neg hi] at e; cases e
theorem ho_gf {tg k : Nat} {o : Int} : ho (hf_gf tg k o) := by
  intro σ τ r τ' h e
  unfold hf_gf at e
  by_cases hi : hf_is τ tg o
  · rw [if_pos hi] at e
    cases e
    have h0 := hi.1
    exact ⟨σ, by unfold hf_gf; rw [if_pos (h.is hi), h.2.2.1 _ (by omega)], h, rfl, rfl⟩
  · rw [if_neg hi] at e; cases e
theorem ho_an {tg : Nat} {o : Int} : ho (hf_an tg o) := by
  intro σ τ r τ' h e
  unfold hf_an at e
  by_cases hi : hf_is τ tg o
  · rw [if_pos hi] at e
    cases e
    have h0 := hi.1
    exact ⟨σ, by unfold hf_an; rw [if_pos (h.is hi), h.2.1 _ (by omega)], h, rfl, rfl⟩
  · rw [if_neg hi] at e; cases e
theorem ho_nw {tg len : Nat} : ho (hf_nw tg len) := by
  intro σ τ r τ' h e
  unfold hf_nw at e
  by_cases hi : τ.1 + 1 ≤ hf_cc ∧ hf_sl τ + len ≤ hf_cs
  · rw [if_pos hi] at e
    cases e
    refine ⟨(τ.1 + 1, (fun a => if a = τ.1 + 1 then (tg, len) else σ.2.1 a), (fun b j => if b = τ.1 + 1 then 0 else σ.2.2 b j)), by unfold hf_nw; rw [h.1, h.sl, if_pos hi], ⟨rfl, fun a ha => ?_, fun a ha => ?_, rfl⟩, ?_, ?_⟩
    · show (if a = τ.1 + 1 then (tg, len) else σ.2.1 a) = (if a = τ.1 + 1 then (tg, len) else τ.2.1 a)
      rw [h.2.1 a ha]
    · show (fun j => if a = τ.1 + 1 then 0 else σ.2.2 a j) = (fun j => if a = τ.1 + 1 then 0 else τ.2.2 a j)
      rw [h.2.2.1 a ha]
    · show (if 0 = τ.1 + 1 then (tg, len) else σ.2.1 0) = _
      rw [if_neg (by omega)]
    · show (fun j => if 0 = τ.1 + 1 then 0 else σ.2.2 0 j) = _
      funext j; rw [if_neg (by omega)]
  · rw [if_neg hi] at e; cases e
theorem ho_na {tg : Nat} {n : Int} : ho (hf_na tg n) := by
  intro σ τ r τ' h e
  unfold hf_na at e
  by_cases hi : 0 ≤ n
  · rw [if_pos hi] at e
    obtain ⟨σ', g1, g2⟩ := ho_nw σ τ r τ' h e
    exact ⟨σ', by unfold hf_na; rw [if_pos hi]; exact g1, g2⟩
  · rw [if_neg hi] at e; cases e
theorem ho_ck {c : Prop} [Decidable c] {k : hf_M α} (hk : ho k) : ho (hf_ck c k) := by
  intro σ τ r τ' h e
  unfold hf_ck at e
  by_cases hc : c
  · rw [if_pos hc] at e
    obtain ⟨σ', g1, g2⟩ := hk σ τ r τ' h e
    exact ⟨σ', by unfold hf_ck; rw [if_pos hc]; exact g1, g2⟩
  · rw [if_neg hc] at e; cases e
theorem ho_ob {tg : Nat} {o : Int} {k : hf_M α} (hk : ho k) : ho (hf_ob tg o k) := by
  intro σ τ r τ' h e
  unfold hf_ob at e
  by_cases hi : hf_is τ tg o
  · rw [if_pos hi] at e
    obtain ⟨σ', g1, g2⟩ := hk σ τ r τ' h e
    exact ⟨σ', by unfold hf_ob; rw [if_pos (h.is hi)]; exact g1, g2⟩
  · rw [if_neg hi] at e; cases e
theorem ho_cb {a b : Int} {c : Prop} [Decidable c] {k1 k2 : hf_M α} (h1 : ho k1) (h2 : ho k2) : ho (hf_cb a b c k1 k2) := by
  intro σ τ r τ' h e
  unfold hf_cb at e
  by_cases hi : hf_inI a ∧ hf_inI b
  · rw [if_pos hi] at e
    by_cases hc : c
    · rw [if_pos hc] at e
      obtain ⟨σ', g1, g2⟩ := h1 σ τ r τ' h e
      exact ⟨σ', by unfold hf_cb; rw [if_pos hi, if_pos hc]; exact g1, g2⟩
    · rw [if_neg hc] at e
      obtain ⟨σ', g1, g2⟩ := h2 σ τ r τ' h e
      exact ⟨σ', by unfold hf_cb; rw [if_pos hi, if_neg hc]; exact g1, g2⟩
  · rw [if_neg hi] at e; cases e
theorem ho_fx {S : Type} {F : (S → hf_M α) → S → hf_M α} (hF : ∀ rec : S → hf_M α, (∀ s, ho (rec s)) → ∀ s, ho (F rec s)) : ∀ (n : Nat) (s : S), ho (hf_fx F n s) := by
  intro n
  induction n with
  | zero => intro s σ τ r τ' _ e; cases e
  | succ n ih => intro s; exact hF _ ih s
end HO
