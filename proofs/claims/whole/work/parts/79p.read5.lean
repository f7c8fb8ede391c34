/-! PLAN: the reference's nodes -/
/-- the nodes that stand open after the first i words, the last one first -/
def sk (W : Int → Int) : Nat → List Int
  | 0 => []
  | i + 1 => (i : Int) :: (if W i < 1000 ∨ 1012 ≤ W i ∧ W i ≤ 1020 then sk W i else if W i = 1009 then (sk W i).tail else (sk W i).tail.tail)
theorem sk_congr {W W' : Int → Int} : ∀ n : Nat, (∀ i : Nat, i < n → W i = W' i) → sk W n = sk W' n := by
  intro n
  induction n with
  | zero => intro _; rfl
  | succ n ih =>
    intro h
    show (n : Int) :: (if W n < 1000 ∨ 1012 ≤ W n ∧ W n ≤ 1020 then sk W n else if W n = 1009 then (sk W n).tail else (sk W n).tail.tail) = (n : Int) :: (if W' n < 1000 ∨ 1012 ≤ W' n ∧ W' n ≤ 1020 then sk W' n else if W' n = 1009 then (sk W' n).tail else (sk W' n).tail.tail)
    rw [h n (by omega), ih (fun i hi => h i (by omega))]
theorem sk_len (W : Int → Int) : ∀ n : Nat, (sk W n).length ≤ n := by
  intro n
  induction n with
  | zero => exact Nat.le_refl _
  | succ n ih =>
    show ((n : Int) :: (if W n < 1000 ∨ 1012 ≤ W n ∧ W n ≤ 1020 then sk W n else if W n = 1009 then (sk W n).tail else (sk W n).tail.tail)).length ≤ n + 1
    rw [List.length_cons]
    repeat' split
    · omega
    · rw [List.length_tail]; omega
    · rw [List.length_tail, List.length_tail]; omega
section
variable {T : gT} {ν : gN}
theorem s_X12_dropHeld {d : Int} (h : ν (-6934) 0 = d) (hd : 1 ≤ d ∧ d ≤ 96) : gv g_X12_dropHeld T ν (fun r ν' => r = ν 85 (d - 1) ∧ ν' = gup ν (-6934) 0 (d - 1)) := by
  unfold g_X12_dropHeld
  refine gv_get (gv_put (gv_get (gv_al ?_ (gv_ret ⟨?_, ?_⟩))))
  · rw [gup_at]; omega
  · rw [gup_at, gup_ne (by decide), h]
  · rw [h]
theorem s_X12_grown {a x y d o : Int} (h4 : ν (-6934) 0 = d) (hd : 0 ≤ d ∧ d < 96) (h2 : ν (-6922) 0 = o) (ho : 0 ≤ o ∧ o < 64) : gv (g_X12_grown a x y) T ν (fun _ ν' => gfr [76, 77, 78, 85, -6934, -6922] ν ν' ∧ ν' (-6934) 0 = d + 1 ∧ ν' (-6922) 0 = o + 1 ∧ (∀ j : Int, ν' 76 j = if j = 64 + o then a else ν 76 j) ∧ (∀ j : Int, ν' 77 j = if j = 64 + o then x else ν 77 j) ∧ (∀ j : Int, ν' 78 j = if j = 64 + o then y else ν 78 j) ∧ ∀ j : Int, ν' 85 j = if j = d then o else ν 85 j) := by
  unfold g_X12_grown
  refine gv_get (gv_as (by omega) (gv_get (gv_as ?_ (gv_get (gv_as ?_ (gv_get (gv_get (gv_as ?_ (gv_get (gv_put (gv_get (gv_put (gv_ret ⟨?_, ?_, ?_, fun j => ?_, fun j => ?_, fun j => ?_, fun j => ?_⟩)))))))))))))
  · rw [gup_ne (by decide)]; omega
  · rw [gup_ne (by decide), gup_ne (by decide)]; omega
  · rw [gup_ne (by decide), gup_ne (by decide), gup_ne (by decide)]; omega
  · exact ((((((gfr.refl _ _).up (by decide)).up (by decide)).up (by decide)).up (by decide)).up (by decide)).up (by decide)
  all_goals simp (disch := decide) only [gup_ne, gup_at, gup_same, h2, h4]
end
