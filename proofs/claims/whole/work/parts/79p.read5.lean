/-! PLAN: the reference's nodes -/
/-- how many open nodes a word takes -/
def need (w : Int) : Nat := if w < 1000 ∨ (1012 ≤ w ∧ w ≤ 1020) then 0 else if w = 1009 then 1 else 2
/-- the nodes that stand open after k words from s on, the last one first -/
def sn (W : Int → Int) (s : Int) : Nat → List Int
  | 0 => []
  | k + 1 => (s + k) :: (sn W s k).drop (need (W (s + k)))
theorem sn_congr {W W' : Int → Int} {s : Int} : ∀ n : Nat, (∀ i : Nat, i < n → W (s + i) = W' (s + i)) → sn W s n = sn W' s n := by
  intro n
  induction n with
  | zero => intro _; rfl
  | succ n ih =>
    intro h
    show (s + (n : Int)) :: (sn W s n).drop (need (W (s + n))) = (s + (n : Int)) :: (sn W' s n).drop (need (W' (s + n)))
    rw [h n (by omega), ih (fun i hi => h i (by omega))]
theorem sn_len (W : Int → Int) (s : Int) : ∀ n : Nat, (sn W s n).length ≤ n := by
  intro n
  induction n with
  | zero => exact Nat.le_refl _
  | succ n ih =>
    show ((s + (n : Int)) :: (sn W s n).drop (need (W (s + n)))).length ≤ n + 1
    rw [List.length_cons, List.length_drop]; omega
theorem sn_zero (W : Int → Int) (n : Nat) : sn W 0 (n + 1) = (n : Int) :: (sn W 0 n).drop (need (W n)) := by
  show (0 + (n : Int)) :: (sn W 0 n).drop (need (W (0 + n))) = _
  rw [Int.zero_add]
/-- no word takes more than there is -/
def wf (W : Int → Int) (s : Int) (k : Nat) : Prop := ∀ j : Nat, j < k → need (W (s + j)) ≤ (sn W s j).length
theorem sn_split {W : Int → Int} {s : Nat} : ∀ k : Nat, wf W s k → sn W 0 (s + k) = sn W s k ++ sn W 0 s := by
  intro k
  induction k with
  | zero => intro _; rfl
  | succ k ih =>
    intro h
    have h1 := ih (fun j hj => h j (by omega))
    have h2 := h k (by omega)
    rw [show s + (k + 1) = (s + k) + 1 by omega, sn_zero, h1]
    show _ = ((s : Int) + (k : Int)) :: (sn W s k).drop (need (W ((s : Int) + k))) ++ sn W 0 s
    rw [show ((s + k : Nat) : Int) = (s : Int) + k by omega, List.drop_append_of_le_length h2]
    rfl
section
variable {T : gT} {ν : gN}
theorem s_X12_dropHeld {d : Int} (h : ν (-6934) 0 = d) (hd : 1 ≤ d ∧ d ≤ 96) : gv g_X12_dropHeld T ν (fun r ν' => r = ν 85 (d - 1) ∧ ν' = gup ν (-6934) 0 (d - 1)) := by
  unfold g_X12_dropHeld
  refine gv_get (gv_put (gv_get (gv_al ?_ (gv_ret ⟨?_, ?_⟩))))
  · rw [gup_at]; omega
  · rw [gup_at, gup_ne (by decide), h]
  · rw [h]
theorem s_X12_grown {a x y d o : Int} (h4 : ν (-6934) 0 = d) (hd : 0 ≤ d ∧ d < 96) (h2 : ν (-6922) 0 = o) (ho : 0 ≤ o ∧ o < 64) : gv (g_X12_grown a x y) T ν (fun _ ν' => gfr [76, 77, 78, 85, -6934, -6922] ν ν' ∧ ν' (-6934) 0 = d + 1 ∧ ν' (-6922) 0 = o + 1 ∧ (∀ j : Int, ν' 76 j = if j = 64 + o then a else ν 76 j) ∧ (∀ j : Int, ν' 77 j = if j = 64 + o then x else ν 77 j) ∧ (∀ j : Int, ν' 78 j = if j = 64 + o then y else ν 78 j) ∧ ∀ j : Int, ν' 85 j = if j = d then o else ν 85 j) := by
  unfold g_X12_grown
  refine gv_get (gv_as (by omega) (gv_get (gv_as ?_ (gv_get (gv_as ?_ (gv_get (gv_get (gv_as ?_ (gv_get (gv_put (gv_get (gv_put (gv_ret ⟨?_, ?_, ?_, fun j => ?_, fun j => ?_, fun j => ?_, fun j => ?_⟩)))))))))))))
  · rw [gup_ne (by decide)]; omega
  · rw [gup_ne (by decide), gup_ne (by decide)]; omega
  · rw [gup_ne (by decide), gup_ne (by decide), gup_ne (by decide)]; omega
  · exact ((((((gfr.refl _ _).up (by decide)).up (by decide)).up (by decide)).up (by decide)).up (by decide)).up (by decide)
  all_goals simp (disch := decide) only [gup_ne, gup_at, gup_same, h2, h4]
end
