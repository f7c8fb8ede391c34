/-! LIES: numbers by their digits -/
def vlN (B : Nat) (D : Nat → Nat) : Nat → Nat
  | 0 => 0
  | m + 1 => vlN B D m + D m * B ^ m
theorem vlN_lt {B : Nat} {D : Nat → Nat} : ∀ m : Nat, (∀ t, t < m → D t < B) → vlN B D m < B ^ m := by
  intro m
  induction m with
  | zero => intro _; exact Nat.one_pos
  | succ m ih =>
    intro h
    have h1 := ih (fun t ht => h t (by omega))
    have h2 := h m (by omega)
    show vlN B D m + D m * B ^ m < B ^ (m + 1)
    have h3 : (D m + 1) * B ^ m ≤ B * B ^ m := Nat.mul_le_mul_right _ h2
    rw [Nat.pow_succ, Nat.mul_comm (B ^ m) B]
    rw [Nat.add_mul, Nat.one_mul] at h3
    omega
theorem vlN_dig {B : Nat} {D : Nat → Nat} (hB : 0 < B) : ∀ m : Nat, (∀ t, t < m → D t < B) → ∀ t, t < m → vlN B D m / B ^ t % B = D t := by
  intro m
  induction m with
  | zero => intro _ t ht; omega
  | succ m ih =>
    intro h t ht
    have hlt := vlN_lt (B := B) (D := D) m (fun t ht => h t (by omega))
    show (vlN B D m + D m * B ^ m) / B ^ t % B = D t
    by_cases e : t = m
    · subst e
      rw [Nat.add_mul_div_right _ _ (Nat.pow_pos hB), Nat.div_eq_of_lt hlt, Nat.zero_add, Nat.mod_eq_of_lt (h t (by omega))]
    · have hm : B ^ m = B ^ t * (B * B ^ (m - t - 1)) := by
        rw [← Nat.mul_assoc, ← Nat.pow_succ, ← Nat.pow_add]
        congr 1
        omega
      rw [hm, show D m * (B ^ t * (B * B ^ (m - t - 1))) = B ^ t * (D m * (B * B ^ (m - t - 1))) by rw [Nat.mul_left_comm], Nat.add_mul_div_left _ _ (Nat.pow_pos hB), show D m * (B * B ^ (m - t - 1)) = B * (D m * B ^ (m - t - 1)) by rw [Nat.mul_left_comm], Nat.add_mul_mod_self_left]
      exact ih (fun t ht => h t (by omega)) t (by omega)
theorem vlN_own {B : Nat} (x : Nat) : ∀ m : Nat, vlN B (fun t => x / B ^ t % B) m = x % B ^ m := by
  intro m
  induction m with
  | zero => show 0 = x % 1; omega
  | succ m ih =>
    show vlN B (fun t => x / B ^ t % B) m + (x / B ^ m % B) * B ^ m = x % B ^ (m + 1)
    rw [ih, Nat.mod_pow_succ, Nat.mul_comm]
theorem vlN_congr {B : Nat} {D D' : Nat → Nat} : ∀ m : Nat, (∀ t, t < m → D t = D' t) → vlN B D m = vlN B D' m := by
  intro m
  induction m with
  | zero => intro _; rfl
  | succ m ih =>
    intro h
    show vlN B D m + D m * B ^ m = vlN B D' m + D' m * B ^ m
    rw [ih (fun t ht => h t (by omega)), h m (by omega)]
theorem vlN_le {B : Nat} {D D' : Nat → Nat} : ∀ m : Nat, (∀ t, t < m → D t ≤ D' t) → vlN B D m ≤ vlN B D' m := by
  intro m
  induction m with
  | zero => intro _; exact Nat.le_refl _
  | succ m ih =>
    intro h
    have h1 := ih (fun t ht => h t (by omega))
    have h2 : D m * B ^ m ≤ D' m * B ^ m := Nat.mul_le_mul_right _ (h m (by omega))
    show vlN B D m + D m * B ^ m ≤ vlN B D' m + D' m * B ^ m
    omega
theorem vlN_add {B : Nat} {D D' : Nat → Nat} : ∀ m : Nat, vlN B (fun t => D t + D' t) m = vlN B D m + vlN B D' m := by
  intro m
  induction m with
  | zero => rfl
  | succ m ih =>
    show vlN B (fun t => D t + D' t) m + (D m + D' m) * B ^ m = vlN B D m + D m * B ^ m + (vlN B D' m + D' m * B ^ m)
    rw [ih, Nat.add_mul]
    omega
theorem vlN_sub {B : Nat} {D D' : Nat → Nat} (m : Nat) (h : ∀ t, t < m → D' t ≤ D t) : vlN B (fun t => D t - D' t) m = vlN B D m - vlN B D' m := by
  have h1 := vlN_add (B := B) (D := fun t => D t - D' t) (D' := D') m
  rw [vlN_congr (D := fun t => (D t - D' t) + D' t) (D' := D) m (fun t ht => by have := h t ht; show D t - D' t + D' t = D t; omega)] at h1
  omega
theorem vlN_more {B : Nat} {D : Nat → Nat} {s m : Nat} (h : s ≤ m) : vlN B D s ≤ vlN B D m := by
  induction m with
  | zero => rw [show s = 0 by omega]; exact Nat.le_refl _
  | succ m ih =>
    by_cases e : s = m + 1
    · rw [e]; exact Nat.le_refl _
    · have := ih (by omega)
      show vlN B D s ≤ vlN B D m + D m * B ^ m
      omega
theorem vlN_cut {B : Nat} {D : Nat → Nat} {s : Nat} : ∀ m : Nat, s ≤ m → vlN B (fun t => if t < s then D t else 0) m = vlN B D s := by
  intro m
  induction m with
  | zero => intro h; rw [show s = 0 by omega]; rfl
  | succ m ih =>
    intro h
    show vlN B (fun t => if t < s then D t else 0) m + (if m < s then D m else 0) * B ^ m = vlN B D s
    by_cases e : s = m + 1
    · subst e
      rw [if_pos (by omega), vlN_congr (D' := D) m (fun t ht => if_pos (by omega))]
      rfl
    · rw [if_neg (by omega), Nat.zero_mul, Nat.add_zero]
      exact ih (by omega)
theorem vlN_mod {B : Nat} {D : Nat → Nat} (hB : 0 < B) {s m : Nat} (hs : s ≤ m) (h : ∀ t, t < m → D t < B) : vlN B D m % B ^ s = vlN B D s := by
  have h1 := vlN_own (B := B) (vlN B D m) s
  rw [← h1]
  exact vlN_congr s (fun t ht => vlN_dig hB m h t (by omega))
/-! credits: two bits a strength -/
def dq (y t : Nat) : Nat := y / 4 ^ t % 4
def alv (y t : Nat) : Nat := if dq y t = 0 then 0 else 1
def blw (y s : Nat) : Nat := vlN 4 (alv y) s
def abv (y s : Nat) : Nat := blw y 8 - blw y s
def cnN (D : Nat → Nat) : Nat → Nat
  | 0 => 0
  | m + 1 => cnN D m + D m
theorem dq_lt (y t : Nat) : dq y t < 4 := Nat.mod_lt _ (by decide)
theorem alv_le (y t : Nat) : alv y t ≤ dq y t := by unfold alv; split <;> omega
theorem alv01 (y t : Nat) : alv y t ≤ 1 := by unfold alv; split <;> omega
theorem own8 {y : Nat} (h : y < 65536) : vlN 4 (dq y) 8 = y := by
  have := vlN_own (B := 4) y 8
  rw [Nat.mod_eq_of_lt h] at this
  exact this
theorem blw_le {y s : Nat} (h : y < 65536) (hs : s ≤ 8) : blw y s ≤ blw y 8 ∧ blw y 8 ≤ y := by
  refine ⟨vlN_more hs, ?_⟩
  have h1 : vlN 4 (alv y) 8 ≤ vlN 4 (dq y) 8 := vlN_le 8 (fun t _ => alv_le y t)
  rw [own8 h] at h1
  exact h1
/-- the least falls from a state -/
def lf (y : Nat) : Int :=
  if cnN (alv y) 8 ≤ 1 then 0 else gmn (fun s => if h : 0 < blw y s.toNat ∧ 0 < abv y s.toNat ∧ 0 < y then 1 + max (lf (y - blw y s.toNat)) (lf (y - abv y s.toNat)) else 101) 1 100 7
termination_by y
decreasing_by
  all_goals omega
def lfc (y : Nat) (s : Int) : Int := if 0 < blw y s.toNat ∧ 0 < abv y s.toNat ∧ 0 < y then 1 + max (lf (y - blw y s.toNat)) (lf (y - abv y s.toNat)) else 101
theorem lf_one {y : Nat} (h : cnN (alv y) 8 ≤ 1) : lf y = 0 := by rw [lf, if_pos h]
theorem lf_two {y : Nat} (h : ¬ cnN (alv y) 8 ≤ 1) : lf y = gmn (lfc y) 1 100 7 := by
  rw [lf, if_neg h]
  refine gmn_congr _ (fun k _ => ?_)
  unfold lfc
  split <;> rfl
/-- what is left below, and above -/
theorem dq_blw {y s t : Nat} (h : y < 65536) (hs : s ≤ 8) (ht : t < 8) : dq (y - blw y s) t = dq y t - (if t < s then alv y t else 0) := by
  have e : y - blw y s = vlN 4 (fun t => dq y t - (if t < s then alv y t else 0)) 8 := by
    rw [vlN_sub 8 (fun t _ => by have := alv_le y t; split <;> omega), own8 h, vlN_cut 8 hs]
    rfl
  rw [e]
  exact vlN_dig (by decide) 8 (fun t _ => by have := dq_lt y t; show dq y t - _ < 4; omega) t ht
theorem dq_abv {y s t : Nat} (h : y < 65536) (hs : s ≤ 8) (ht : t < 8) : dq (y - abv y s) t = dq y t - (if t < s then 0 else alv y t) := by
  have e : y - abv y s = vlN 4 (fun t => dq y t - (if t < s then 0 else alv y t)) 8 := by
    have e1 : abv y s = vlN 4 (fun t => if t < s then 0 else alv y t) 8 := by
      have h1 := vlN_add (B := 4) (D := fun t => if t < s then alv y t else 0) (D' := fun t => if t < s then 0 else alv y t) 8
      rw [vlN_cut 8 hs, vlN_congr (D := fun t => (if t < s then alv y t else 0) + (if t < s then 0 else alv y t)) (D' := alv y) 8 (fun t _ => by show (if t < s then alv y t else 0) + (if t < s then 0 else alv y t) = alv y t; split <;> omega)] at h1
      show vlN 4 (alv y) 8 - vlN 4 (alv y) s = _
      omega
    rw [vlN_sub 8 (fun t _ => by have := alv_le y t; split <;> omega), own8 h, e1]
  rw [e]
  exact vlN_dig (by decide) 8 (fun t _ => by have := dq_lt y t; show dq y t - _ < 4; omega) t ht
theorem cnN_pos {D : Nat → Nat} : ∀ m : Nat, 0 < cnN D m → ∃ t, t < m ∧ 0 < D t := by
  intro m
  induction m with
  | zero => intro h; exact absurd h (Nat.lt_irrefl _)
  | succ m ih =>
    intro h
    have h' : 0 < cnN D m + D m := h
    by_cases e : 0 < D m
    · exact ⟨m, by omega, e⟩
    · obtain ⟨t, h1, h2⟩ := ih (by omega)
      exact ⟨t, by omega, h2⟩
theorem cnN_of {D : Nat → Nat} {t : Nat} (h : 0 < D t) : ∀ m : Nat, t < m → 0 < cnN D m := by
  intro m
  induction m with
  | zero => intro h; omega
  | succ m ih =>
    intro hm
    show 0 < cnN D m + D m
    by_cases e : t = m
    · rw [← e]; omega
    · have := ih (by omega); omega
theorem cnN_two {D : Nat → Nat} (h01 : ∀ t, D t ≤ 1) : ∀ m : Nat, 2 ≤ cnN D m → ∃ s, s < m ∧ 0 < cnN D s ∧ 0 < D s := by
  intro m
  induction m with
  | zero => intro h; exact absurd (show 2 ≤ 0 from h) (by decide)
  | succ m ih =>
    intro h
    have h' : 2 ≤ cnN D m + D m := h
    by_cases e : 0 < D m
    · exact ⟨m, by omega, by have := h01 m; omega, e⟩
    · obtain ⟨s, h1, h2⟩ := ih (by omega)
      exact ⟨s, by omega, h2⟩
theorem cnN_congr {D D' : Nat → Nat} : ∀ m : Nat, (∀ t, t < m → D t = D' t) → cnN D m = cnN D' m := by
  intro m
  induction m with
  | zero => intro _; rfl
  | succ m ih =>
    intro h
    show cnN D m + D m = cnN D' m + D' m
    rw [ih (fun t ht => h t (by omega)), h m (by omega)]
theorem vlN_pos {B : Nat} {D : Nat → Nat} (hB : 0 < B) {t : Nat} (h : 0 < D t) {m : Nat} (hm : t < m) : 0 < vlN B D m := by
  have h1 : vlN B D (t + 1) ≤ vlN B D m := vlN_more (by omega)
  have h2 : 0 < D t * B ^ t := Nat.mul_pos h (Nat.pow_pos hB)
  have h3 : vlN B D (t + 1) = vlN B D t + D t * B ^ t := rfl
  omega
theorem vlN_zero {B : Nat} {D : Nat → Nat} : ∀ m : Nat, (∀ t, t < m → D t = 0) → vlN B D m = 0 := by
  intro m
  induction m with
  | zero => intro _; rfl
  | succ m ih =>
    intro h
    show vlN B D m + D m * B ^ m = 0
    rw [ih (fun t ht => h t (by omega)), h m (by omega)]
    omega
/-- something lives below s; above -/
theorem blw_pos {y s : Nat} : 0 < blw y s ↔ ∃ t, t < s ∧ dq y t ≠ 0 := by
  constructor
  · intro h
    apply Classical.byContradiction
    intro hc
    have : vlN 4 (alv y) s = 0 := vlN_zero s (fun t ht => by
      unfold alv
      by_cases e : dq y t = 0
      · rw [if_pos e]
      · exact absurd ⟨t, ht, e⟩ hc)
    have h' : 0 < vlN 4 (alv y) s := h
    omega
  · rintro ⟨t, h1, h2⟩
    exact vlN_pos (by decide) (t := t) (by unfold alv; rw [if_neg h2]; decide) h1
theorem abv_pos {y s : Nat} (hs : s ≤ 8) : 0 < abv y s ↔ ∃ t, s ≤ t ∧ t < 8 ∧ dq y t ≠ 0 := by
  have e1 : abv y s = vlN 4 (fun t => if t < s then 0 else alv y t) 8 := by
    have h1 := vlN_add (B := 4) (D := fun t => if t < s then alv y t else 0) (D' := fun t => if t < s then 0 else alv y t) 8
    rw [vlN_cut 8 hs, vlN_congr (D := fun t => (if t < s then alv y t else 0) + (if t < s then 0 else alv y t)) (D' := alv y) 8 (fun t _ => by show (if t < s then alv y t else 0) + (if t < s then 0 else alv y t) = alv y t; split <;> omega)] at h1
    show vlN 4 (alv y) 8 - vlN 4 (alv y) s = _
    omega
  rw [e1]
  constructor
  · intro h
    apply Classical.byContradiction
    intro hc
    have : vlN 4 (fun t => if t < s then 0 else alv y t) 8 = 0 := vlN_zero 8 (fun t ht => by
      show (if t < s then 0 else alv y t) = 0
      by_cases c : t < s
      · rw [if_pos c]
      · rw [if_neg c]
        unfold alv
        by_cases e : dq y t = 0
        · rw [if_pos e]
        · exact absurd ⟨t, by omega, ht, e⟩ hc)
    omega
  · rintro ⟨t, h1, h2, h3⟩
    exact vlN_pos (by decide) (t := t) (by show 0 < (if t < s then 0 else alv y t); rw [if_neg (by omega)]; unfold alv; rw [if_neg h3]; decide) h2
/-- the credits together go down with each fall -/
theorem cnN_lt {D D' : Nat → Nat} : ∀ m : Nat, (∀ t, t < m → D t ≤ D' t) → cnN D m ≤ cnN D' m ∧ ((∃ t, t < m ∧ D t < D' t) → cnN D m < cnN D' m) := by
  intro m
  induction m with
  | zero => intro _; exact ⟨Nat.le_refl _, fun ⟨t, h, _⟩ => by omega⟩
  | succ m ih =>
    intro h
    obtain ⟨h1, h2⟩ := ih (fun t ht => h t (by omega))
    have h3 := h m (by omega)
    refine ⟨by show cnN D m + D m ≤ cnN D' m + D' m; omega, fun ⟨t, ht, hl⟩ => ?_⟩
    show cnN D m + D m < cnN D' m + D' m
    by_cases e : t = m
    · rw [e] at hl; omega
    · have := h2 ⟨t, by omega, hl⟩; omega
theorem lf_in : ∀ k y : Nat, y < 65536 → cnN (dq y) 8 = k → 0 ≤ lf y ∧ lf y ≤ k := by
  intro k
  induction k using Nat.strongRecOn with
  | ind k ih =>
    intro y hy hk
    by_cases c : cnN (alv y) 8 ≤ 1
    · rw [lf_one c]; omega
    · rw [lf_two c]
      have hd : ∀ s : Nat, s ≤ 8 → 0 < blw y s → cnN (dq (y - blw y s)) 8 < k := fun s hs hb => by
        obtain ⟨t, h1, h2⟩ := blw_pos.mp hb
        rw [← hk]
        refine (cnN_lt 8 (fun t ht => by rw [dq_blw hy hs ht]; omega)).2 ⟨t, by omega, ?_⟩
        rw [dq_blw hy hs (by omega), if_pos h1]
        unfold alv
        rw [if_neg h2]; omega
      have hu : ∀ s : Nat, s ≤ 8 → 0 < abv y s → cnN (dq (y - abv y s)) 8 < k := fun s hs hb => by
        obtain ⟨t, h1, h2, h3⟩ := (abv_pos hs).mp hb
        rw [← hk]
        refine (cnN_lt 8 (fun t ht => by rw [dq_abv hy hs ht]; omega)).2 ⟨t, h2, ?_⟩
        rw [dq_abv hy hs h2, if_neg (by omega)]
        unfold alv
        rw [if_neg h3]; omega
      have hc : ∀ s : Nat, s ≤ 8 → 0 ≤ lfc y s ∧ (0 < blw y s ∧ 0 < abv y s ∧ 0 < y → lfc y s ≤ k) := fun s hs => by
        unfold lfc
        rw [Int.toNat_natCast]
        by_cases cc : 0 < blw y s ∧ 0 < abv y s ∧ 0 < y
        · rw [if_pos cc]
          have a1 := ih _ (hd s hs cc.1) (y - blw y s) (by omega) rfl
          have a2 := ih _ (hu s hs cc.2.1) (y - abv y s) (by omega) rfl
          have b1 := hd s hs cc.1
          have b2 := hu s hs cc.2.1
          exact ⟨by omega, fun _ => by omega⟩
        · rw [if_neg cc]
          exact ⟨by omega, fun h => absurd h cc⟩
      refine ⟨le_gmn 7 (by decide) (fun j hj => by have := (hc (j + 1) (by omega)).1; rw [show (1 : Int) + (j : Int) = ((j + 1 : Nat) : Int) by omega]; exact this), ?_⟩
      obtain ⟨s, h1, h2, h3⟩ := cnN_two (alv01 y) 8 (by omega)
      obtain ⟨u, hu1, hu2⟩ := cnN_pos s h2
      have hdu : dq y u ≠ 0 := fun e => by unfold alv at hu2; rw [if_pos e] at hu2; omega
      have hds : dq y s ≠ 0 := fun e => by unfold alv at h3; rw [if_pos e] at h3; omega
      have hb : 0 < blw y s := blw_pos.mpr ⟨u, hu1, hdu⟩
      have ha : 0 < abv y s := (abv_pos (by omega)).mpr ⟨s, Nat.le_refl _, h1, hds⟩
      have hy0 : 0 < y := by have := blw_le hy (show s ≤ 8 by omega); omega
      have h4 := gmn_le (lfc y) 1 100 7 (s - 1) (by omega)
      rw [show (1 : Int) + ((s - 1 : Nat) : Int) = ((s : Nat) : Int) by omega] at h4
      have h5 := (hc s (by omega)).2 ⟨hb, ha, hy0⟩
      omega
theorem lf_24 {y : Nat} (h : y < 65536) : 0 ≤ lf y ∧ lf y ≤ 24 := by
  have h1 := lf_in _ y h rfl
  have h2 : cnN (dq y) 8 ≤ 24 := by
    have : ∀ m : Nat, cnN (dq y) m ≤ 3 * m := by
      intro m
      induction m with
      | zero => exact Nat.le_refl _
      | succ m ih =>
        have := dq_lt y m
        show cnN (dq y) m + dq y m ≤ 3 * (m + 1)
        omega
    exact this 8
  omega
