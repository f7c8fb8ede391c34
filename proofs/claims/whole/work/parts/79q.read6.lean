/-! PLAN: the reference's nodes and the class's words -/
/-- node i says what word i says -/
def nOK (τ : gN) (W : Int → Int) (i : Nat) : Prop := (W i < 1000 → τ 76 (64 + i) = 0 ∧ τ 77 (64 + i) = W i) ∧ (1012 ≤ W i ∧ W i ≤ 1020 → τ 76 (64 + i) = 1 ∧ τ 77 (64 + i) = W i - 1012) ∧ (W i = 1009 → τ 76 (64 + i) = 2 ∧ τ 77 (64 + i) = (sn W 0 i).getD 0 0 ∧ τ 78 (64 + i) = -1) ∧ ((W i = 1010 ∨ W i = 1011 ∨ 1021 ≤ W i) → τ 76 (64 + i) = sg (W i - 1000) ∧ τ 77 (64 + i) = (sn W 0 i).getD 1 0 ∧ τ 78 (64 + i) = (sn W 0 i).getD 0 0)
/-- a row of open nodes is a list turned round -/
def stR (τ : gN) (L : List Int) : Prop := τ (-6934) 0 = L.length ∧ ∀ j : Nat, j < L.length → τ 85 j = L.getD (L.length - 1 - j) 0
def RN (τ : gN) (W : Int → Int) (o : Nat) (L : List Int) : Prop := τ (-6922) 0 = o ∧ stR τ L ∧ (∃ B, sn W 0 o = L ++ B) ∧ ∀ i : Nat, i < o → nOK τ W i
theorem stR_push {τ τ' : gN} {L : List Int} {v : Int} (h : stR τ L) (h1 : τ' (-6934) 0 = (L.length : Int) + 1) (h2 : ∀ j : Int, τ' 85 j = if j = L.length then v else τ 85 j) : stR τ' (v :: L) := by
  refine ⟨by rw [h1, List.length_cons]; omega, fun j hj => ?_⟩
  rw [List.length_cons] at hj
  rw [h2 j, List.length_cons]
  by_cases e : j = L.length
  · rw [if_pos (by omega), e, show L.length + 1 - 1 - L.length = 0 by omega]; rfl
  · rw [if_neg (by omega), h.2 j (by omega), show L.length + 1 - 1 - j = (L.length - 1 - j) + 1 by omega]; rfl
theorem stR_pop {τ τ' : gN} {L : List Int} {v : Int} (h : stR τ (v :: L)) (h1 : τ' (-6934) 0 = (L.length : Int)) (h2 : τ' 85 = τ 85) : stR τ' L ∧ τ 85 (L.length : Int) = v := by
  refine ⟨⟨h1, fun j hj => ?_⟩, ?_⟩
  · rw [h2, h.2 j (by rw [List.length_cons]; omega), List.length_cons, show L.length + 1 - 1 - j = (L.length - 1 - j) + 1 by omega]; rfl
  · have := h.2 L.length (by rw [List.length_cons]; omega)
    rw [this, List.length_cons, show L.length + 1 - 1 - L.length = 0 by omega]; rfl
theorem nOK_congr {τ τ' : gN} {W W' : Int → Int} {i : Nat} (h : nOK τ W i) (hW : ∀ j : Nat, j ≤ i → W' j = W j) (h6 : τ' 76 (64 + i) = τ 76 (64 + i)) (h7 : τ' 77 (64 + i) = τ 77 (64 + i)) (h8 : τ' 78 (64 + i) = τ 78 (64 + i)) : nOK τ' W' i := by
  unfold nOK at h ⊢
  rw [hW i (Nat.le_refl _), h6, h7, h8, sn_congr (W := W') (W' := W) i (fun j hj => by rw [Int.zero_add]; exact hW j (by omega))]
  exact h
/-- the nodes of the plan that stands are left as they are -/
def lo3 (τ τ' : gN) : Prop := ∀ j : Int, j < 64 → τ' 76 j = τ 76 j ∧ τ' 77 j = τ 77 j ∧ τ' 78 j = τ 78 j
theorem lo3.refl (τ : gN) : lo3 τ τ := fun _ _ => ⟨rfl, rfl, rfl⟩
theorem lo3.trans {a b c : gN} (h1 : lo3 a b) (h2 : lo3 b c) : lo3 a c := fun j hj => ⟨(h2 j hj).1.trans (h1 j hj).1, (h2 j hj).2.1.trans (h1 j hj).2.1, (h2 j hj).2.2.trans (h1 j hj).2.2⟩
theorem gfr.lo3 {W : List Int} {a c : gN} (h : gfr W a c) (hd : ∀ x ∈ ([76, 77, 78] : List Int), x ∉ W) : lo3 a c := fun j _ => ⟨by rw [h _ (hd _ (by decide))], by rw [h _ (hd _ (by decide))], by rw [h _ (hd _ (by decide))]⟩
