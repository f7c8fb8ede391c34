/-! LIES: the reference -/
def dgN (b x t : Nat) : Nat := x / b ^ t % b
/-- what may still lie: the reference's digits as credits -/
def cv (b n x : Nat) : Nat := vlN 4 (fun t => if t ≤ n then b - 1 - dgN b x t else 0) 8
/-- more lies for those of a .. e that are in -/
def mIn (b x a t : Nat) : Nat := if a ≤ t ∧ dgN b x t < b - 1 then 1 else 0
def mL (b x a e : Nat) : Nat := x + vlN b (mIn b x a) (e + 1)
theorem dgN_lt {b : Nat} (hb : 0 < b) (x t : Nat) : dgN b x t < b := Nat.mod_lt _ hb
theorem cv_lt (b n x : Nat) (hb : b ≤ 4) : cv b n x < 65536 := vlN_lt (B := 4) 8 (fun t _ => by show (if t ≤ n then b - 1 - dgN b x t else 0) < 4; split <;> omega)
theorem dq_cv {b n x t : Nat} (hb : b ≤ 4) (ht : t < 8) : dq (cv b n x) t = if t ≤ n then b - 1 - dgN b x t else 0 :=
  vlN_dig (B := 4) (by decide) 8 (fun t _ => by show (if t ≤ n then b - 1 - dgN b x t else 0) < 4; split <;> omega) t ht
theorem alv_cv {b n x t : Nat} (hb : 2 ≤ b ∧ b ≤ 4) (ht : t < 8) : alv (cv b n x) t = if t ≤ n then (if dgN b x t < b - 1 then 1 else 0) else 0 := by
  have h1 := dgN_lt (b := b) (by omega) x t
  unfold alv
  rw [dq_cv hb.2 ht]
  by_cases c : t ≤ n
  · rw [if_pos c, if_pos c]
    by_cases c2 : dgN b x t < b - 1
    · rw [if_pos c2, if_neg (by omega)]
    · rw [if_neg c2, if_pos (by omega)]
  · rw [if_neg c, if_neg c, if_pos rfl]
theorem mL_dig {b n x a e : Nat} (hb : 2 ≤ b) (hx : x < b ^ (n + 1)) (he : e ≤ n) : mL b x a e < b ^ (n + 1) ∧ ∀ t, t ≤ n → dgN b (mL b x a e) t = dgN b x t + (if t ≤ e then mIn b x a t else 0) := by
  have e1 : mL b x a e = vlN b (fun t => dgN b x t + (if t < e + 1 then mIn b x a t else 0)) (n + 1) := by
    rw [vlN_add, vlN_cut (n + 1) (by omega)]
    unfold mL
    have : vlN b (fun t => dgN b x t) (n + 1) = x := by
      have h := vlN_own (B := b) x (n + 1)
      rw [Nat.mod_eq_of_lt hx] at h
      exact h
    rw [this]
  have hd : ∀ t, t < n + 1 → dgN b x t + (if t < e + 1 then mIn b x a t else 0) < b := fun t _ => by
    have h1 := dgN_lt (b := b) (by omega) x t
    unfold mIn
    by_cases c : t < e + 1
    · rw [if_pos c]
      split <;> omega
    · rw [if_neg c]; omega
  refine ⟨by rw [e1]; exact vlN_lt _ hd, fun t ht => ?_⟩
  unfold dgN at *
  rw [e1, vlN_dig (by omega) (n + 1) hd t (by omega)]
  by_cases c : t ≤ e
  · rw [if_pos c, if_pos (by omega)]
  · rw [if_neg c, if_neg (by omega)]
theorem same8 {y z : Nat} (hy : y < 65536) (hz : z < 65536) (h : ∀ t, t < 8 → dq y t = dq z t) : y = z := by
  rw [← own8 hy, ← own8 hz]
  exact vlN_congr 8 h
theorem cv_whole {b n x s : Nat} (hb : 2 ≤ b ∧ b ≤ 4) (hn : n ≤ 7) (hx : x < b ^ (n + 1)) (hs : 1 ≤ s ∧ s ≤ n) : cv b n (mL b x 0 (s - 1)) = cv b n x - blw (cv b n x) s := by
  have hc := cv_lt b n x hb.2
  refine same8 (cv_lt _ _ _ hb.2) (by omega) (fun t ht => ?_)
  rw [dq_cv hb.2 ht, dq_blw hc (by omega) ht, dq_cv hb.2 ht, alv_cv hb ht]
  by_cases c : t ≤ n
  · rw [if_pos c, if_pos c, if_pos c, (mL_dig hb.1 hx (by omega)).2 t c]
    unfold mIn
    have := dgN_lt (b := b) (by omega) x t
    by_cases c2 : t < s
    · rw [if_pos (by omega), if_pos c2]
      by_cases c3 : dgN b x t < b - 1
      · rw [if_pos ⟨Nat.zero_le _, c3⟩, if_pos c3]; omega
      · rw [if_neg (fun h => c3 h.2), if_neg c3]; omega
    · rw [if_neg (by omega), if_neg c2]; omega
  · rw [if_neg c, if_neg c]; omega
theorem cv_broken {b n x s : Nat} (hb : 2 ≤ b ∧ b ≤ 4) (hn : n ≤ 7) (hx : x < b ^ (n + 1)) (hs : 1 ≤ s ∧ s ≤ n) : cv b n (mL b x s n) = cv b n x - abv (cv b n x) s := by
  have hc := cv_lt b n x hb.2
  refine same8 (cv_lt _ _ _ hb.2) (by omega) (fun t ht => ?_)
  rw [dq_cv hb.2 ht, dq_abv hc (by omega) ht, dq_cv hb.2 ht, alv_cv hb ht]
  by_cases c : t ≤ n
  · rw [if_pos c, if_pos c, if_pos c, (mL_dig hb.1 hx (by omega)).2 t c, if_pos c]
    unfold mIn
    have := dgN_lt (b := b) (by omega) x t
    by_cases c2 : t < s
    · rw [if_pos c2, if_neg (by omega)]; omega
    · rw [if_neg c2]
      by_cases c3 : dgN b x t < b - 1
      · rw [if_pos ⟨by omega, c3⟩, if_pos c3]; omega
      · rw [if_neg (fun h => c3 h.2), if_neg c3]; omega
  · rw [if_neg c, if_neg c]; omega
/-- it stays as it is if none is in -/
theorem mL_whole {b n x s : Nat} (hb : 2 ≤ b ∧ b ≤ 4) (hn : n ≤ 7) (hs : 1 ≤ s ∧ s ≤ n) : mL b x 0 (s - 1) = x ↔ ¬ 0 < blw (cv b n x) s := by
  unfold mL
  have hi : ∀ t, t < s → (mIn b x 0 t = 0 ↔ dq (cv b n x) t = 0) := fun t ht => by
    rw [dq_cv hb.2 (by omega), if_pos (by omega)]
    have := dgN_lt (b := b) (by omega) x t
    unfold mIn
    by_cases c3 : dgN b x t < b - 1
    · rw [if_pos ⟨Nat.zero_le _, c3⟩]; omega
    · rw [if_neg (fun h => c3 h.2)]; omega
  rw [blw_pos, show s - 1 + 1 = s by omega]
  constructor
  · rintro h ⟨t, h1, h2⟩
    have : 0 < mIn b x 0 t := Nat.pos_of_ne_zero (fun e => h2 ((hi t h1).mp e))
    have := vlN_pos (B := b) (D := mIn b x 0) (by omega) this h1
    omega
  · intro h
    have := vlN_zero (B := b) (D := mIn b x 0) s (fun t ht => (hi t ht).mpr (Classical.byContradiction (fun e => h ⟨t, ht, e⟩)))
    omega
theorem mL_broken {b n x s : Nat} (hb : 2 ≤ b ∧ b ≤ 4) (hn : n ≤ 7) (hs : 1 ≤ s ∧ s ≤ n) : mL b x s n = x ↔ ¬ 0 < abv (cv b n x) s := by
  unfold mL
  have hi : ∀ t, t < 8 → s ≤ t → t ≤ n → (mIn b x s t = 0 ↔ dq (cv b n x) t = 0) := fun t ht h1 h2 => by
    rw [dq_cv hb.2 ht, if_pos h2]
    have := dgN_lt (b := b) (by omega) x t
    unfold mIn
    by_cases c3 : dgN b x t < b - 1
    · rw [if_pos ⟨h1, c3⟩]; omega
    · rw [if_neg (fun h => c3 h.2)]; omega
  rw [abv_pos (by omega)]
  constructor
  · rintro h ⟨t, h1, h2, h3⟩
    have htn : t ≤ n := Classical.byContradiction (fun e => h3 (by rw [dq_cv hb.2 h2, if_neg e]))
    have : 0 < mIn b x s t := Nat.pos_of_ne_zero (fun e => h3 ((hi t h2 h1 htn).mp e))
    have := vlN_pos (B := b) (D := mIn b x s) (m := n + 1) (by omega) this (by omega)
    omega
  · intro h
    have := vlN_zero (B := b) (D := mIn b x s) (n + 1) (fun t ht => by
      by_cases c : s ≤ t
      · exact (hi t (by omega) c (by omega)).mpr (Classical.byContradiction (fun e => h ⟨t, c, by omega, e⟩))
      · unfold mIn; rw [if_neg (fun h => c h.1)])
    omega
theorem cnN_cv {b n x : Nat} (hb : 2 ≤ b ∧ b ≤ 4) (hn : n ≤ 7) : cnN (alv (cv b n x)) 8 = cnN (fun t => if dgN b x t < b - 1 then 1 else 0) (n + 1) := by
  have h1 : ∀ m, m ≤ 8 → cnN (alv (cv b n x)) m = cnN (fun t => if dgN b x t < b - 1 then 1 else 0) (min m (n + 1)) := by
    intro m
    induction m with
    | zero => intro _; rw [Nat.zero_min]; rfl
    | succ m ih =>
      intro hm
      show cnN (alv (cv b n x)) m + alv (cv b n x) m = _
      rw [ih (by omega), alv_cv hb (by omega)]
      by_cases c : m ≤ n
      · rw [if_pos c, show min (m + 1) (n + 1) = min m (n + 1) + 1 by omega, show min m (n + 1) = m by omega]
        rfl
      · rw [if_neg c, show min (m + 1) (n + 1) = min m (n + 1) by omega]
        rfl
  rw [h1 8 (by omega), show min 8 (n + 1) = n + 1 by omega]
section
variable {T : gT} {ν : gN}
theorem d_X12_digitOf {b x t : Nat} (hb : 2 ≤ b ∧ b ≤ 4) (hx : x < 65536) (ht : t ≤ 7) : gd (g_X12_digitOf (x : Int) (t : Int) (b : Int)) T ν ((dgN b x t : Nat) : Int) := by
  unfold g_X12_digitOf g_X12_digitOf_6
  refine gd_fx (fun (s : Int × Int) => ∃ k : Nat, s.2 = k ∧ k ≤ t ∧ s.1 = ((x / b ^ k : Nat) : Int)) (fun s => 10 - s.2.toNat) ⟨0, rfl, by omega, by show (x : Int) = ((x / b ^ 0 : Nat) : Int); rw [Nat.pow_zero, Nat.div_one]⟩ (by show 10 - (0 : Int).toNat < 100000; omega) ?_
  intro rec s hI hrec
  obtain ⟨k, e2, hk, e1⟩ := hI
  have hle : x / b ^ k ≤ x := Nat.div_le_self _ _
  have h0 : (0 : Int) ≤ ((x / b ^ k : Nat) : Int) := Int.natCast_nonneg _
  unfold gB_X12_digitOf_6
  rw [e2, e1]
  refine gd_cb ⟨⟨by omega, by omega⟩, ⟨by omega, by omega⟩⟩ (fun c => gd_rm ⟨⟨by omega, by omega⟩, ⟨by omega, by omega⟩, by omega⟩ ?_) (fun c => gd_dv ⟨⟨by omega, by omega⟩, ⟨by omega, by omega⟩, by omega⟩ (gd_let (hrec _ ⟨k + 1, by show (k : Int) + 1 = _; omega, by omega, ?_⟩ (by show 10 - ((k : Int) + 1).toNat < 10 - s.2.toNat; rw [e2]; omega))))
  · rw [show k = t by omega, ← Int.ofNat_tmod]; exact gd_ret
  · show ((x / b ^ k : Nat) : Int).tdiv (b : Int) = _
    rw [← Int.ofNat_tdiv, Nat.div_div_eq_div_mul, ← Nat.pow_succ]
theorem d_X12_canBe {b x n : Nat} (hb : 2 ≤ b ∧ b ≤ 4) (hx : x < 65536) (hn : n ≤ 7) : gd (g_X12_canBe (x : Int) (n : Int) (b : Int)) T ν ((cnN (alv (cv b n x)) 8 : Nat) : Int) := by
  rw [cnN_cv hb hn]
  unfold g_X12_canBe g_X12_canBe_6
  refine gd_fx (fun (s : Int × Int) => ∃ k : Nat, s.2 = k ∧ k ≤ n + 1 ∧ s.1 = ((cnN (fun t => if dgN b x t < b - 1 then 1 else 0) k : Nat) : Int)) (fun s => 10 - s.2.toNat) ⟨0, rfl, by omega, rfl⟩ (by show 10 - (0 : Int).toNat < 100000; omega) ?_
  intro rec s hI hrec
  obtain ⟨k, e2, hk, e1⟩ := hI
  unfold gB_X12_canBe_6
  rw [e2, e1]
  refine gd_cb ⟨⟨by omega, by omega⟩, ⟨by omega, by omega⟩⟩ (fun c => ?_) (fun c => gd_rd (d_X12_digitOf hb hx (by omega)) ?_)
  · rw [show k = n + 1 by omega]; exact gd_ret
  · have := dgN_lt (b := b) (by omega) x k
    refine gd_ck ⟨⟨by omega, by omega⟩, ⟨by omega, by omega⟩⟩ (gd_let (gd_let (gd_let (hrec _ ⟨k + 1, by show (k : Int) + 1 = _; omega, by omega, ?_⟩ (by show 10 - ((k : Int) + 1).toNat < 10 - s.2.toNat; rw [e2]; omega)))))
    show ((cnN (fun t => if dgN b x t < b - 1 then 1 else 0) k : Nat) : Int) + (if (b : Int) - 1 ≤ ((dgN b x k : Nat) : Int) then 0 else 1) = ((cnN (fun t => if dgN b x t < b - 1 then 1 else 0) k + (if dgN b x k < b - 1 then 1 else 0) : Nat) : Int)
    by_cases c3 : dgN b x k < b - 1
    · rw [if_pos c3, if_neg (by omega)]; omega
    · rw [if_neg c3, if_pos (by omega)]; omega
theorem d_X12_moreLies {b x a e : Nat} (hb : 2 ≤ b ∧ b ≤ 4) (hx : x < 65536) (ha : a ≤ 8) (he : e ≤ 7) : gd (g_X12_moreLies (x : Int) (a : Int) (e : Int) (b : Int)) T ν ((mL b x a e : Nat) : Int) := by
  unfold g_X12_moreLies g_X12_moreLies_9
  refine gd_fx (fun (s : Int × Int × Int) => ∃ k : Nat, s.2.2 = k ∧ k ≤ e + 1 ∧ s.1 = ((b ^ k : Nat) : Int) ∧ s.2.1 = ((x + vlN b (mIn b x a) k : Nat) : Int)) (fun s => 10 - s.2.2.toNat) ⟨0, rfl, by omega, by show (1 : Int) = ((b ^ 0 : Nat) : Int); rfl, rfl⟩ (by show 10 - (0 : Int).toNat < 100000; omega) ?_
  intro rec s hI hrec
  obtain ⟨k, e2, hk, e1, e3⟩ := hI
  unfold gB_X12_moreLies_9 g_X12_moreLies_44
  rw [e2, e1, e3]
  have hz' : 10 - ((k : Int) + 1).toNat < 10 - s.2.2.toNat ∨ e < k := by rw [e2]; omega
  refine gd_cb ⟨⟨by omega, by omega⟩, ⟨by omega, by omega⟩⟩ (fun c => ?_) (fun c => ?_)
  · unfold mL
    rw [show k = e + 1 by omega]; exact gd_ret
  · have hz : 10 - ((k : Int) + 1).toNat < 10 - s.2.2.toNat := by rw [e2]; omega
    have epow : ((b ^ k : Nat) : Int) * (b : Int) = ((b ^ (k + 1) : Nat) : Int) := by rw [Nat.pow_succ, Int.natCast_mul]
    have evl : vlN b (mIn b x a) (k + 1) = vlN b (mIn b x a) k + mIn b x a k * b ^ k := rfl
    refine gd_cb ⟨⟨by omega, by omega⟩, ⟨by omega, by omega⟩⟩ (fun c2 => gd_let (gd_let (hrec _ ⟨k + 1, by show (k : Int) + 1 = _; omega, by omega, epow, ?_⟩ hz))) (fun c2 => gd_rd (d_X12_digitOf hb hx (by omega)) ?_)
    · show ((x + vlN b (mIn b x a) k : Nat) : Int) = _
      rw [evl, show mIn b x a k = 0 by unfold mIn; rw [if_neg (by omega)], Nat.zero_mul]
      omega
    · have := dgN_lt (b := b) (by omega) x k
      refine gd_cb ⟨⟨by omega, by omega⟩, ⟨by omega, by omega⟩⟩ (fun c3 => gd_let (gd_let (hrec _ ⟨k + 1, by show (k : Int) + 1 = _; omega, by omega, epow, ?_⟩ hz))) (fun c3 => gd_let (gd_let (gd_let (hrec _ ⟨k + 1, by show (k : Int) + 1 = _; omega, by omega, epow, ?_⟩ hz))))
      · show ((x + vlN b (mIn b x a) k : Nat) : Int) = _
        rw [evl, show mIn b x a k = 0 by unfold mIn; rw [if_neg (by omega)], Nat.zero_mul]
        omega
      · show ((x + vlN b (mIn b x a) k : Nat) : Int) + ((b ^ k : Nat) : Int) = _
        rw [evl, show mIn b x a k = 1 by unfold mIn; rw [if_pos (by omega)], Nat.one_mul]
        omega
end
