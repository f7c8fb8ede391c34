/-! TRIAL: its course, as rows. 0 low, 1 high, 2 left, 3 falls, 4 cost, 5 broken, 6 kinds, 7 steps, 8 broke, 9 how it ends, 10 what it says -/
def nmv (P : gN) (i : Int) : Int := if i = 0 then P 0 0 else if i = 1 then P 1 0 else if i = 2 then P 1 0 - P 0 0 else if i = 3 then P 3 0 else if i = 4 then (if 0 < P 3 0 then P 7 (P 3 0 - 1) else 0) else if i = 5 then (if 0 < P 3 0 then P 8 (P 3 0 - 1) else 0) else P 2 (i - 6)
def brk (D : gN) (t k s : Int) : Int := if s ≤ t + D 3 k then 0 else 1
def fal (D : gN) (t : Int) (P : gN) (k s : Int) : gN :=
  gup (gup (gup (gup (gup (gup (gup (gup (gup P 6 (P 3 0) k) 7 (P 3 0) s) 8 (P 3 0) (brk D t k s)) 0 0 (if brk D t k s = 0 then max (P 0 0) (s - D 3 k) else P 0 0)) 1 0 (if brk D t k s = 0 then P 1 0 else min (P 1 0) (s - D 3 k - 1))) 2 k (P 2 k - brk D t k s)) 5 0 (P 5 0 + brk D t k s)) 4 0 (P 4 0 + (D (-204) 0 + D (-205) 0 * s + (if brk D t k s = 0 then 0 else D 5 k)))) 3 0 (P 3 0 + 1)
def bad (D P : gN) (k v : Int) : Prop := v < 1 ∨ D (-200) 0 < v ∨ P 2 k ≤ 0 ∨ 200 ≤ P 3 0
def trR (D S : gN) (t : Int) : Nat → gN → gN → Prop
  | 0, _, _ => False
  | f + 1, P, R => (P 1 0 ≤ P 0 0 ∧ R = gup (gup P 9 0 0) 10 0 t) ∨ (P 0 0 < P 1 0 ∧ ∃ l, lnF S (nmv P) 0 l ∧ ((l = -1 ∧ R = gup P 9 0 3) ∨ (0 ≤ l ∧ ((evv (S 8) (nmv P) (S 12 l) (S 13 l) = none ∧ R = gup P 9 0 3) ∨ ∃ v, evv (S 8) (nmv P) (S 12 l) (S 13 l) = some v ∧ ((S 11 l = 3 ∧ R = gup (gup P 10 0 v) 9 0 (if v = t then 1 else 2)) ∨ (S 11 l ≠ 3 ∧ ((bad D P (S 11 l) v ∧ R = gup P 9 0 3) ∨ (¬ bad D P (S 11 l) v ∧ trR D S t f (fal D t P (S 11 l) v) R))))))))
theorem trR_one {D S : gN} {t : Int} : ∀ (f f' : Nat) (P R R' : gN), trR D S t f P R → trR D S t f' P R' → R = R' := by
  intro f
  induction f with
  | zero => intro f' P R R' h; exact absurd h id
  | succ f ih =>
    intro f' P R R' h h'
    match f' with
    | 0 => exact absurd h' id
    | f' + 1 =>
      unfold trR at h h'
      rcases h with ⟨a1, a2⟩ | ⟨a1, l, a2, a3⟩
      · rcases h' with ⟨b1, b2⟩ | ⟨b1, _⟩
        · rw [a2, b2]
        · omega
      · rcases h' with ⟨b1, b2⟩ | ⟨b1, l', b2, b3⟩
        · omega
        have el := lnF_one (Int.le_refl 0) a2 b2
        subst el
        rcases a3 with ⟨c1, c2⟩ | ⟨c1, c2⟩
        · rcases b3 with ⟨d1, d2⟩ | ⟨d1, _⟩
          · rw [c2, d2]
          · omega
        rcases b3 with ⟨d1, d2⟩ | ⟨d1, d2⟩
        · omega
        rcases c2 with ⟨e1, e2⟩ | ⟨v, e1, e2⟩
        · rcases d2 with ⟨g1, g2⟩ | ⟨v', g1, g2⟩
          · rw [e2, g2]
          · rw [e1] at g1; exact absurd g1 (by simp)
        rcases d2 with ⟨g1, g2⟩ | ⟨v', g1, g2⟩
        · rw [e1] at g1; exact absurd g1 (by simp)
        rw [e1] at g1
        have ev := Option.some.inj g1
        subst ev
        rcases e2 with ⟨i1, i2⟩ | ⟨i1, i2⟩
        · rcases g2 with ⟨j1, j2⟩ | ⟨j1, _⟩
          · rw [i2, j2]
          · exact absurd i1 j1
        rcases g2 with ⟨j1, _⟩ | ⟨j1, j2⟩
        · exact absurd j1 i1
        rcases i2 with ⟨m1, m2⟩ | ⟨m1, m2⟩
        · rcases j2 with ⟨n1, n2⟩ | ⟨n1, _⟩
          · rw [m2, n2]
          · exact absurd m1 n1
        rcases j2 with ⟨n1, _⟩ | ⟨n1, n2⟩
        · exact absurd n1 m1
        · exact ih _ _ _ _ m2 n2
def TR (D S : gN) (t : Int) (P R : gN) : Prop := ∃ f, trR D S t f P R
theorem TR_one {D S : gN} {t : Int} {P R R' : gN} (h : TR D S t P R) (h' : TR D S t P R') : R = R' := by
  obtain ⟨f, h⟩ := h
  obtain ⟨f', h'⟩ := h'
  exact trR_one f f' P R R' h h'
/-- its bounds -/
def pT (P : gN) : Prop := (0 ≤ P 3 0 ∧ P 3 0 ≤ 200) ∧ (0 ≤ P 0 0 ∧ P 0 0 ≤ 60) ∧ (-20 ≤ P 1 0 ∧ P 1 0 ≤ 40) ∧ (∀ k : Int, 0 ≤ k → k < 3 → 0 ≤ P 2 k ∧ P 2 k ≤ 4) ∧ (0 ≤ P 4 0 ∧ P 4 0 ≤ 600 * P 3 0) ∧ (0 ≤ P 5 0 ∧ P 5 0 ≤ P 3 0) ∧ (∀ i : Int, 0 ≤ i → i < P 3 0 → (0 ≤ P 6 i ∧ P 6 i < 3) ∧ (1 ≤ P 7 i ∧ P 7 i ≤ 40) ∧ (P 8 i = 0 ∨ P 8 i = 1))
section
variable {D S P : gN} {t k s : Int}
theorem brk01 : brk D t k s = 0 ∨ brk D t k s = 1 := by unfold brk; split <;> omega
theorem fal_r : fal D t P k s 0 0 = (if brk D t k s = 0 then max (P 0 0) (s - D 3 k) else P 0 0) ∧ fal D t P k s 1 0 = (if brk D t k s = 0 then P 1 0 else min (P 1 0) (s - D 3 k - 1)) ∧ (∀ j : Int, fal D t P k s 2 j = if j = k then P 2 k - brk D t k s else P 2 j) ∧ fal D t P k s 3 0 = P 3 0 + 1 ∧ fal D t P k s 4 0 = P 4 0 + (D (-204) 0 + D (-205) 0 * s + (if brk D t k s = 0 then 0 else D 5 k)) ∧ fal D t P k s 5 0 = P 5 0 + brk D t k s ∧ (∀ j : Int, fal D t P k s 6 j = if j = P 3 0 then k else P 6 j) ∧ (∀ j : Int, fal D t P k s 7 j = if j = P 3 0 then s else P 7 j) ∧ (∀ j : Int, fal D t P k s 8 j = if j = P 3 0 then brk D t k s else P 8 j) ∧ fal D t P k s 9 = P 9 ∧ fal D t P k s 10 = P 10 := by
  refine ⟨?_, ?_, fun j => ?_, ?_, ?_, ?_, fun j => ?_, fun j => ?_, fun j => ?_, ?_, ?_⟩
  · unfold fal; simp (disch := decide) only [gup_ne, gup_at]
  · unfold fal; simp (disch := decide) only [gup_ne, gup_at]
  · unfold fal; simp (disch := decide) only [gup_ne, gup_same]
  · unfold fal; simp (disch := decide) only [gup_ne, gup_at]
  · unfold fal; simp (disch := decide) only [gup_ne, gup_at]
  · unfold fal; simp (disch := decide) only [gup_ne, gup_at]
  · unfold fal; simp (disch := decide) only [gup_ne, gup_same]
  · unfold fal; simp (disch := decide) only [gup_ne, gup_same]
  · unfold fal; simp (disch := decide) only [gup_ne, gup_same]
  · unfold fal; simp (disch := decide) only [gup_ne]
  · unfold fal; simp (disch := decide) only [gup_ne]
theorem pT_fal (h : pT P) (hD : iSt D) (hk : 0 ≤ k ∧ k < 3) (hs : 1 ≤ s ∧ s ≤ 40) (hl : 0 < P 2 k) (hc : P 3 0 < 200) : pT (fal D t P k s) := by
  obtain ⟨a1, a2, a3, a4, a5, a6, a7⟩ := h
  obtain ⟨q0, q1, q2, q3, q4, q5, q6, q7, q8, _, _⟩ := fal_r (D := D) (P := P) (t := t) (k := k) (s := s)
  have hb := brk01 (D := D) (t := t) (k := k) (s := s)
  have hd := hD.2.1 k hk.1 hk.2
  have h204 := hD.2.2.2.1
  have h205 := hD.2.2.2.2.1
  have hmul : 0 ≤ D (-205) 0 * s ∧ D (-205) 0 * s ≤ 9 * 40 := ⟨Int.mul_nonneg h205.1 (by omega), Int.mul_le_mul h205.2 hs.2 (by omega) (by decide)⟩
  have hp : 0 ≤ (if brk D t k s = 0 then 0 else D 5 k) ∧ (if brk D t k s = 0 then 0 else D 5 k) ≤ 99 := by split <;> omega
  have hk4 := a4 k hk.1 hk.2
  refine ⟨by rw [q3]; omega, ?_, ?_, fun j b1 b2 => ?_, by rw [q4, q3]; omega, by rw [q5, q3]; omega, fun i b1 b2 => ?_⟩
  · rw [q0]; split <;> omega
  · rw [q1]; split <;> omega
  · rw [q2]
    split
    · omega
    · exact a4 j b1 b2
  · rw [q3] at b2
    rw [q6, q7, q8]
    by_cases c : i = P 3 0
    · rw [if_pos c, if_pos c, if_pos c]; exact ⟨hk, hs, hb⟩
    · rw [if_neg c, if_neg c, if_neg c]; exact a7 i b1 (by omega)
theorem pT_up (h : pT P) {r j v : Int} (hr : 9 ≤ r) : pT (gup P r j v) := by
  unfold pT
  rw [gup_ne (b := 0) (by omega), gup_ne (b := 1) (by omega), gup_ne (b := 2) (by omega), gup_ne (b := 3) (by omega), gup_ne (b := 4) (by omega), gup_ne (b := 5) (by omega), gup_ne (b := 6) (by omega), gup_ne (b := 7) (by omega), gup_ne (b := 8) (by omega)]
  exact h
theorem nmB_of (h : pT P) : nmB (nmv P) := by
  obtain ⟨a1, a2, a3, a4, a5, a6, a7⟩ := h
  intro i h1 h2
  unfold nmv
  by_cases c0 : i = 0
  · rw [if_pos c0]; omega
  rw [if_neg c0]
  by_cases c1 : i = 1
  · rw [if_pos c1]; omega
  rw [if_neg c1]
  by_cases c2 : i = 2
  · rw [if_pos c2]; omega
  rw [if_neg c2]
  by_cases c3 : i = 3
  · rw [if_pos c3]; omega
  rw [if_neg c3]
  by_cases c4 : i = 4
  · rw [if_pos c4]
    by_cases c : 0 < P 3 0
    · rw [if_pos c]; have := (a7 (P 3 0 - 1) (by omega) (by omega)).2.1; omega
    · rw [if_neg c]; omega
  rw [if_neg c4]
  by_cases c5 : i = 5
  · rw [if_pos c5]
    by_cases c : 0 < P 3 0
    · rw [if_pos c]; have := (a7 (P 3 0 - 1) (by omega) (by omega)).2.2; omega
    · rw [if_neg c]; omega
  rw [if_neg c5]
  have := a4 (i - 6) (by omega) (by omega)
  omega
/-- the start -/
def tP0 (D : gN) : gN := fun r j => if r = 1 then D (-200) 0 else if r = 2 then D 4 j else if r = 9 ∨ r = 10 then -1 else 0
theorem pT_0 (hD : iSt D) : pT (tP0 D) := by
  have := hD.1
  have e0 : tP0 D 0 0 = 0 := rfl
  have e1 : tP0 D 1 0 = D (-200) 0 := rfl
  have e3 : tP0 D 3 0 = 0 := rfl
  have e4 : tP0 D 4 0 = 0 := rfl
  have e5 : tP0 D 5 0 = 0 := rfl
  exact ⟨by omega, by omega, by omega, fun k a b => (hD.2.1 k a b).2.1, by omega, by omega, fun i a b => by omega⟩
end
