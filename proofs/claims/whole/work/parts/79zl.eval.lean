/-! TRIAL: what an expression is worth -/
def mxv : Int := 1000000000000
def opv (k l r : Int) : Option Int :=
  if k = 27 then (if mxv < l + r ∨ l + r < -mxv then none else some (l + r))
  else if k = 28 then (if mxv < l - r ∨ l - r < -mxv then none else some (l - r))
  else if k = 29 then (if l ≠ 0 ∧ mxv.tdiv (if 0 < l then l else -l) < (if 0 < r then r else -r) then none else some (l * r))
  else if k = 30 then (if r = 0 then none else some (l.tdiv r))
  else some (if k = 10 then (if l ≠ 0 ∨ r ≠ 0 then 1 else 0) else if k = 11 then (if l ≠ 0 ∧ r ≠ 0 then 1 else 0) else if k = 21 then (if l < r then 1 else 0) else if k = 22 then (if l ≤ r then 1 else 0) else if k = 23 then (if l = r then 1 else 0) else if k = 24 then (if l ≠ r then 1 else 0) else if k = 25 then (if r ≤ l then 1 else 0) else (if r < l then 1 else 0))
def evs (w : Int) (N : Int → Int) (st : List Int) : Option (List Int) :=
  if w < 1000 then some (w :: st) else if 1012 ≤ w ∧ w ≤ 1020 then some (N (w - 1012) :: st)
  else if w = 1009 then some ((if st.getD 0 0 = 0 then 1 else 0) :: st.drop 1)
  else (opv (w - 1000) (st.getD 1 0) (st.getD 0 0)).map (fun v => v :: st.drop 2)
def es (W N : Int → Int) (a : Int) : Nat → Option (List Int)
  | 0 => some []
  | k + 1 => (es W N a k).bind (evs (W (a + k)) N)
/-- the value of the words from a to b -/
def evv (W N : Int → Int) (a b : Int) : Option Int := (es W N a (b - a).toNat).map (fun st => st.getD 0 0)
def bdd (x : Int) : Prop := -mxv ≤ x ∧ x ≤ mxv
theorem tdiv_bd {l r : Int} (hl : bdd l) (hr : r ≠ 0) : bdd (l.tdiv r) := by
  unfold bdd mxv at *
  have h1 := Int.natAbs_tdiv_le_natAbs l r
  omega
theorem mul_bd {l r : Int} (h : ¬ (l ≠ 0 ∧ mxv.tdiv (if 0 < l then l else -l) < (if 0 < r then r else -r))) : bdd (l * r) := by
  by_cases c : l = 0
  · rw [c, Int.zero_mul]; unfold bdd mxv; omega
  have h1 : (if 0 < r then r else -r) ≤ mxv.tdiv (if 0 < l then l else -l) := by
    apply Classical.byContradiction
    intro g
    exact h ⟨c, by omega⟩
  have e1 : (if 0 < l then l else -l) = (l.natAbs : Int) := by split <;> omega
  have e2 : (if 0 < r then r else -r) = (r.natAbs : Int) := by split <;> omega
  rw [e1, e2] at h1
  have h2 : (l.natAbs : Int) * mxv.tdiv (l.natAbs : Int) ≤ mxv := by
    rw [Int.tdiv_eq_ediv_of_nonneg (by unfold mxv; omega)]
    exact Int.mul_ediv_self_le (by omega)
  have h3 : (l.natAbs : Int) * (r.natAbs : Int) ≤ (l.natAbs : Int) * mxv.tdiv (l.natAbs : Int) := Int.mul_le_mul_of_nonneg_left h1 (by omega)
  have h4 : ((l * r).natAbs : Int) = (l.natAbs : Int) * (r.natAbs : Int) := by rw [Int.natAbs_mul]; omega
  unfold bdd
  omega
theorem opv_bd {k l r v : Int} (hl : bdd l) (hr : bdd r) (h : opv k l r = some v) : bdd v := by
  unfold opv at h
  by_cases c1 : k = 27
  · rw [if_pos c1] at h
    split at h
    · exact absurd h (by simp)
    · have := Option.some.inj h; unfold bdd mxv at *; omega
  rw [if_neg c1] at h
  by_cases c2 : k = 28
  · rw [if_pos c2] at h
    split at h
    · exact absurd h (by simp)
    · have := Option.some.inj h; unfold bdd mxv at *; omega
  rw [if_neg c2] at h
  by_cases c3 : k = 29
  · rw [if_pos c3] at h
    by_cases c : l ≠ 0 ∧ mxv.tdiv (if 0 < l then l else -l) < (if 0 < r then r else -r)
    · rw [if_pos c] at h; exact absurd h (by simp)
    · rw [if_neg c] at h
      rw [← Option.some.inj h]; exact mul_bd c
  rw [if_neg c3] at h
  by_cases c4 : k = 30
  · rw [if_pos c4] at h
    by_cases c : r = 0
    · rw [if_pos c] at h; exact absurd h (by simp)
    · rw [if_neg c] at h
      rw [← Option.some.inj h]; exact tdiv_bd hl c
  rw [if_neg c4] at h
  have hv := Option.some.inj h
  have : v = 0 ∨ v = 1 := by
    rw [← hv]
    repeat' split
    all_goals simp
  unfold bdd mxv
  omega
theorem es_none {W N : Int → Int} {a : Int} {k : Nat} (h : es W N a k = none) : ∀ j : Nat, es W N a (k + j) = none := by
  intro j
  induction j with
  | zero => exact h
  | succ j ih => show (es W N a (k + j)).bind (evs (W (a + (k + j : Nat))) N) = none; rw [ih]; rfl
theorem es_len {W N : Int → Int} {a : Int} : ∀ (k : Nat) (st : List Int), wf W a k → es W N a k = some st → st.length = (sn W a k).length := by
  intro k
  induction k with
  | zero => intro st _ h; rw [← Option.some.inj h]; rfl
  | succ k ih =>
    intro st hw h
    have h' : (es W N a k).bind (evs (W (a + k)) N) = some st := h
    match hq : es W N a k with
    | none => rw [hq] at h'; exact absurd h' (by simp)
    | some s0 =>
      rw [hq] at h'
      have h1 := ih s0 (fun j hj => hw j (by omega)) hq
      have h2 := hw k (by omega)
      have h3 : evs (W (a + k)) N s0 = some st := h'
      show st.length = ((a + (k : Int)) :: (sn W a k).drop (need (W (a + k)))).length
      rw [List.length_cons, List.length_drop, ← h1]
      rw [← h1] at h2
      unfold evs at h3
      unfold need at h2 ⊢
      by_cases c1 : W (a + k) < 1000
      · rw [if_pos c1] at h3
        rw [if_pos (Or.inl c1), ← Option.some.inj h3]; rfl
      rw [if_neg c1] at h3
      by_cases c2 : 1012 ≤ W (a + k) ∧ W (a + k) ≤ 1020
      · rw [if_pos c2] at h3
        rw [if_pos (Or.inr c2), ← Option.some.inj h3]; rfl
      rw [if_neg c2] at h3
      rw [if_neg (by omega)] at h2 ⊢
      by_cases c3 : W (a + k) = 1009
      · rw [if_pos c3] at h3 h2 ⊢
        rw [← Option.some.inj h3, List.length_cons, List.length_drop]
      · rw [if_neg c3] at h3 h2 ⊢
        match ho : opv (W (a + k) - 1000) (s0.getD 1 0) (s0.getD 0 0) with
        | none => rw [ho] at h3; exact absurd h3 (by simp)
        | some v =>
          rw [ho] at h3
          rw [← Option.some.inj h3, List.length_cons, List.length_drop]
/-- a row of numbers is a list turned round -/
def stG (τ : gN) (L : List Int) : Prop := τ (-3701) 0 = L.length ∧ ∀ j : Nat, j < L.length → τ 38 j = L.getD (L.length - 1 - j) 0
def bdL (L : List Int) : Prop := ∀ x ∈ L, bdd x
theorem bdL_get {L : List Int} (h : bdL L) {i : Nat} (hi : i < L.length) : bdd (L.getD i 0) := by
  rw [List.getD_eq_getElem?_getD, List.getElem?_eq_getElem hi]
  exact h _ (List.getElem_mem hi)
section
variable {T : gT} {ν τ : gN}
theorem s_X7_push {L : List Int} {v : Int} (h : stG τ L) (hl : L.length < 64) (hv : -9000000000000000000 ≤ v ∧ v ≤ 9000000000000000000) : gv (g_X7_push v) T τ (fun _ τ' => (bdd v ∧ gfr [38, -3701] τ τ' ∧ stG τ' (v :: L)) ∨ (¬ bdd v ∧ τ' = gup τ (-3702) 0 1)) := by
  unfold g_X7_push g_X7_push_51
  refine gv_get ?_
  rw [h.1]
  refine gv_cb ⟨⟨by omega, by omega⟩, ⟨by omega, by omega⟩⟩ (fun c => by omega) (fun c => gv_cl ⟨⟨by omega, by omega⟩, ⟨by omega, by omega⟩⟩ (fun c1 => gv_put (gv_ret (Or.inr ⟨by unfold bdd mxv; omega, rfl⟩))) (fun c1 => gv_cl ⟨⟨by omega, by omega⟩, ⟨by omega, by omega⟩⟩ (fun c2 => gv_put (gv_ret (Or.inr ⟨by unfold bdd mxv; omega, rfl⟩))) (fun c2 => gv_get (gv_as ?_ (gv_get (gv_put (gv_ret (Or.inl ⟨by unfold bdd mxv; omega, ((gfr.refl _ _).up (by decide)).up (by decide), ?_, fun j hj => ?_⟩))))))))
  · rw [h.1]; omega
  · rw [gup_at, gup_ne (by decide), h.1, List.length_cons]; omega
  · rw [List.length_cons] at hj
    rw [gup_ne (by decide), gup_same, h.1, List.length_cons]
    by_cases e : j = L.length
    · rw [if_pos (by omega), e, show L.length + 1 - 1 - L.length = 0 by omega]; rfl
    · rw [if_neg (by omega), h.2 j (by omega), show L.length + 1 - 1 - j = (L.length - 1 - j) + 1 by omega]; rfl
theorem s_X7_pop {L : List Int} (h : stG τ L) (hl : 1 ≤ L.length ∧ L.length ≤ 64) : gv g_X7_pop T τ (fun r τ' => r = L.getD 0 0 ∧ gfr [-3701] τ τ' ∧ stG τ' (L.drop 1)) := by
  unfold g_X7_pop
  refine gv_get ?_
  rw [h.1]
  refine gv_cz ⟨by omega, by omega⟩ (fun c => gv_get (gv_put (gv_get (gv_al ?_ (gv_ret ⟨?_, (gfr.refl _ _).up (by decide), ?_, fun j hj => ?_⟩))))) (fun c => by omega)
  · rw [gup_at, h.1]; omega
  · rw [gup_at, gup_ne (by decide), h.1]
    have := h.2 (L.length - 1) (by omega)
    rw [show (L.length : Int) - 1 = ((L.length - 1 : Nat) : Int) by omega, this, show L.length - 1 - (L.length - 1) = 0 by omega]
  · rw [gup_at, h.1, List.length_drop]; omega
  · rw [List.length_drop] at hj
    rw [gup_ne (by decide), h.2 j (by omega), List.length_drop, List.getD_eq_getElem?_getD, List.getD_eq_getElem?_getD, List.getElem?_drop]
    congr 2
    omega
theorem stG_fr {W : List Int} {L : List Int} {τ' : gN} (h : stG τ L) (hf : gfr W τ τ') (hd : ∀ x ∈ ([38, -3701] : List Int), x ∉ W) : stG τ' L := by
  obtain ⟨h1, h2⟩ := h
  exact ⟨by rw [hf _ (hd _ (by decide))]; exact h1, fun j hj => by rw [hf _ (hd _ (by decide))]; exact h2 j hj⟩
end
