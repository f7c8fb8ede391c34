/-! WEAK: the reference's loops -/
section
variable {T : gT} {ν : gN}
theorem base_inj {B X X' r r' : Int} (hB : 0 < B) (hr : 0 ≤ r ∧ r < B) (hr' : 0 ≤ r' ∧ r' < B) (e : B * X + r = B * X' + r') : X = X' ∧ r = r' := by
  have h1 : (B * X + r) / B = X := by rw [Int.add_comm, Int.add_mul_ediv_left _ _ (by omega), Int.ediv_eq_zero_of_lt hr.1 hr.2, Int.zero_add]
  have h2 : (B * X' + r') / B = X' := by rw [Int.add_comm, Int.add_mul_ediv_left _ _ (by omega), Int.ediv_eq_zero_of_lt hr'.1 hr'.2, Int.zero_add]
  have h3 : X = X' := by rw [← h1, ← h2, e]
  subst h3
  exact ⟨rfl, by omega⟩
theorem wix_inj {a b m k a' b' m' k' : Int} (hk : 0 ≤ k ∧ k < 5) (hk' : 0 ≤ k' ∧ k' < 5) (hm : 0 ≤ m ∧ m < 41) (hm' : 0 ≤ m' ∧ m' < 41) (hb : 0 ≤ b ∧ b < 41) (hb' : 0 ≤ b' ∧ b' < 41) (e : wix a b m k = wix a' b' m' k') : a = a' ∧ b = b' ∧ m = m' ∧ k = k' := by
  unfold wix at e
  obtain ⟨e1, e2⟩ := base_inj (by decide) hk hk' e
  obtain ⟨e3, e4⟩ := base_inj (by decide) hm hm' e1
  obtain ⟨e5, e6⟩ := base_inj (by decide) hb hb' e3
  exact ⟨e5, e6, e4, e2⟩
def wkP (ν : gN) (top d w : Int) (n : Nat) (L A K M : Int) : Prop := ∀ (a len m : Int) (k : Nat), 0 ≤ a → 1 ≤ len → a + len ≤ top → 1 ≤ k → k ≤ n → 0 ≤ m → m ≤ top - len → (len < L ∨ (len = L ∧ (a < A ∨ (a = A ∧ ((k : Int) < K ∨ ((k : Int) = K ∧ m < M)))))) → ν 93 (wix a (a + len) m k) = wk top d w k a (a + len) m
theorem wkP.mono {top d w : Int} {n : Nat} {L A K M L' A' K' M' : Int} (h : wkP ν top d w n L A K M) (hh : ∀ (a len m : Int) (k : Nat), 0 ≤ a → 1 ≤ len → a + len ≤ top → 1 ≤ k → k ≤ n → 0 ≤ m → m ≤ top - len → (len < L' ∨ (len = L' ∧ (a < A' ∨ (a = A' ∧ ((k : Int) < K' ∨ ((k : Int) = K' ∧ m < M')))))) → (len < L ∨ (len = L ∧ (a < A ∨ (a = A ∧ ((k : Int) < K ∨ ((k : Int) = K ∧ m < M))))))) : wkP ν top d w n L' A' K' M' :=
  fun a len m k h1 h2 h3 h4 h5 h6 h7 h8 => h a len m k h1 h2 h3 h4 h5 h6 h7 (hh a len m k h1 h2 h3 h4 h5 h6 h7 h8)
def wkA (v : Int) : Int := if v < 1000000 then v else -2
theorem s_X12_weak_27 {n : Nat} {w : Int} (ht : 1 ≤ ν (-6903) 0 ∧ ν (-6903) 0 ≤ 40) (hd : -9 ≤ ν 71 0 ∧ ν 71 0 ≤ 9) (hn : 1 ≤ n ∧ n ≤ 4) (hw : 0 ≤ w ∧ w ≤ 3) : gv (g_X12_weak_27 n w 1) T ν (fun r ν' => r = wkA (wk (ν (-6903) 0) (ν 71 0) w n 0 (ν (-6903) 0) 0) ∧ gfr [93] ν ν') := by
  generalize etop : ν (-6903) 0 = top at *
  generalize ed : ν 71 0 = d at *
  unfold g_X12_weak_27
  refine gv_fx (fun (L : Int) τ => 1 ≤ L ∧ L ≤ top + 1 ∧ gfr [93] ν τ ∧ wkP τ top d w n L 0 1 0) (fun L _ => 50 - L.toNat) ⟨by omega, by omega, gfr.refl _ _, fun a len m k h1 h2 h3 h4 h5 h6 h7 h8 => by omega⟩ (by omega) ?_
  intro rec L τ hI hrec
  obtain ⟨hL1, hL2, hf, hP⟩ := hI
  have e1 : τ (-6903) 0 = top := by rw [hf (-6903) (by decide)]; exact etop
  unfold gB_X12_weak_27
  refine gv_get ?_
  rw [e1]
  refine gv_cb ⟨⟨by omega, by omega⟩, ⟨by omega, by omega⟩⟩ (fun c => gv_get ?_) (fun c => ?_)
  · rw [e1]
    have hat := d_X12_weakAt (T := T) (ν := τ) (top := top) (d := d) (w := w) (low := 0) (high := top) (m := 0) (n := n) (by omega) (by omega) (by omega) (fun a b => by
      have := hP 0 top 0 n (by omega) (by omega) (by omega) (by omega) (by omega) (by omega) (by omega) (by omega)
      rw [Int.zero_add] at this
      exact this)
    have hin := wk_in top d w n _ 0 top 0 rfl (by omega)
    exact gv_rd hat (gv_ck ⟨⟨by omega, by omega⟩, ⟨by omega, by omega⟩⟩ (gv_let (gv_ret ⟨rfl, hf⟩)))
  · unfold g_X12_weak_38
    refine gv_fx (fun (A : Int) τ => 0 ≤ A ∧ A ≤ top + 1 ∧ gfr [93] ν τ ∧ wkP τ top d w n L A 1 0) (fun A _ => 50 - A.toNat) ⟨by omega, by omega, hf, hP⟩ (by omega) ?_
    intro rec2 A τ2 hI2 hrec2
    obtain ⟨hA1, hA2, hf2, hP2⟩ := hI2
    have e2 : τ2 (-6903) 0 = top := by rw [hf2 (-6903) (by decide)]; exact etop
    unfold gB_X12_weak_38
    refine gv_get ?_
    rw [e2]
    refine gv_cb ⟨⟨by omega, by omega⟩, ⟨by omega, by omega⟩⟩ (fun c2 => gv_let (hrec _ _ ⟨by omega, by omega, hf2, hP2.mono (by omega)⟩ (by omega))) (fun c2 => ?_)
    unfold g_X12_weak_52
    refine gv_fx (fun (K : Int) τ => 1 ≤ K ∧ K ≤ n + 1 ∧ gfr [93] ν τ ∧ wkP τ top d w n L A K 0) (fun K _ => 10 - K.toNat) ⟨by omega, by omega, hf2, hP2⟩ (by omega) ?_
    intro rec3 K τ3 hI3 hrec3
    obtain ⟨hK1, hK2, hf3, hP3⟩ := hI3
    unfold gB_X12_weak_52
    refine gv_cb ⟨⟨by omega, by omega⟩, ⟨by omega, by omega⟩⟩ (fun c3 => gv_let (hrec2 _ _ ⟨by omega, by omega, hf3, hP3.mono (by omega)⟩ (by omega))) (fun c3 => ?_)
    unfold g_X12_weak_61
    refine gv_fx (fun (M : Int) τ => 0 ≤ M ∧ M ≤ top - L + 1 ∧ gfr [93] ν τ ∧ wkP τ top d w n L A K M) (fun M _ => 50 - M.toNat) ⟨by omega, by omega, hf3, hP3⟩ (by omega) ?_
    intro rec4 M τ4 hI4 hrec4
    obtain ⟨hM1, hM2, hf4, hP4⟩ := hI4
    have e4 : τ4 (-6903) 0 = top := by rw [hf4 (-6903) (by decide)]; exact etop
    have e4d : τ4 71 0 = d := by rw [hf4 71 (by decide)]; exact ed
    unfold gB_X12_weak_61
    refine gv_get ?_
    rw [e4]
    refine gv_cb ⟨⟨by omega, by omega⟩, ⟨by omega, by omega⟩⟩ (fun c4 => gv_let (hrec3 _ _ ⟨by omega, by omega, hf4, hP4.mono (by omega)⟩ (by omega))) (fun c4 => ?_)
    obtain ⟨q, hq⟩ : ∃ q : Nat, K = ((q + 1 : Nat) : Int) := ⟨(K - 1).toNat, by omega⟩
    subst hq
    have hbest := d_X12_weakBest (T := T) (ν := τ4) (low := A) (high := A + L) (m := M) (w := w) (n := q) (nn := n) (by rw [e4]; exact ht) (by rw [e4d]; exact hd) hw (by rw [e4]; omega) (by rw [e4]; omega) (by omega) (by
      rw [e4, e4d]
      intro a b m k h1 h2 h3 h4 h5 h6 h7 h8
      have := hP4 a (b - a) m k h1 (by omega) (by omega) h5 h6 h7 h8 (by omega)
      rw [show a + (b - a) = b by omega] at this
      exact this) (by
      rw [e4, e4d]
      intro hq0
      exact hP4 A L 0 q (by omega) (by omega) (by omega) (by omega) (by omega) (by omega) (by omega) (by omega))
    rw [e4, e4d] at hbest
    refine gv_rd hbest (gv_as ⟨by omega, by omega⟩ (gv_let (hrec4 _ _ ⟨by omega, by omega, hf4.up (by decide), ?_⟩ (by omega))))
    intro a len m k h1 h2 h3 h4 h5 h6 h7 h8
    rw [gup_same]
    by_cases e : a = A ∧ len = L ∧ k = q + 1 ∧ m = M
    · obtain ⟨rfl, rfl, rfl, rfl⟩ := e
      rw [if_pos (by unfold wix; omega)]
    · rw [if_neg (fun ee => e (by have := wix_inj (a := a) (b := a + len) (m := m) (k := k) (a' := A) (b' := A + L) (m' := M) (k' := ((q + 1 : Nat) : Int)) (by omega) (by omega) (by omega) (by omega) (by omega) (by omega) (by unfold wix at ee ⊢; omega); omega))]
      exact hP4 a len m k h1 h2 h3 h4 h5 h6 h7 (by omega)
theorem s_X12_weak {n w : Int} (hn : -2147483648 ≤ n ∧ n ≤ 2147483647) (hw : -2147483648 ≤ w ∧ w ≤ 2147483647) (ht : 1 ≤ ν (-6903) 0 ∧ ν (-6903) 0 ≤ 40) (hd : -9 ≤ ν 71 0 ∧ ν 71 0 ≤ 9) : gv (g_X12_weak n w) T ν (fun r ν' => r = (if (1 ≤ n ∧ n ≤ 4) ∧ (0 ≤ w ∧ w ≤ 3) then wkA (wk (ν (-6903) 0) (ν 71 0) w n.toNat 0 (ν (-6903) 0) 0) else -1) ∧ gfr [93, -6902] ν ν') := by
  unfold g_X12_weak
  refine gv_put ?_
  refine gv_tz (k1 := gret 0) (k2 := gret 0) (d_X12_isIn hn (by decide) (by decide)) (fun c1 => gv_e1 ?_) (fun c => gv_e0 (gv_ret ⟨by rw [if_neg (fun h => c h.1)], (gfr.refl _ _).up (by decide)⟩))
  refine gv_tz (k1 := gret 0) (k2 := gret 0) (d_X12_isIn hw (by decide) (by decide)) (fun c2 => gv_c1 ?_) (fun c => gv_c0 (gv_ret ⟨by rw [if_neg (fun h => c h.2)], (gfr.refl _ _).up (by decide)⟩))
  have e1 : gup ν (-6902) 0 0 (-6903) = ν (-6903) := gup_ne (by decide)
  have e2 : gup ν (-6902) 0 0 71 = ν 71 := gup_ne (by decide)
  have h := s_X12_weak_27 (T := T) (ν := gup ν (-6902) 0 0) (n := n.toNat) (w := w) (by rw [e1]; exact ht) (by rw [e2]; exact hd) (by omega) c2
  rw [e1, e2, show ((n.toNat : Nat) : Int) = n by omega] at h
  refine h.mono (fun r ν' hr => ⟨by rw [if_pos ⟨c1, c2⟩]; exact hr.1, ((gfr.refl _ _).up (by decide)).trans (hr.2.mono (by decide))⟩)
/-! the triangle's rows -/
def trN : Nat → Nat
  | 0 => 0
  | n + 1 => trN n + n + 1
theorem trN_mul : ∀ n : Nat, n * (n + 1) = 2 * trN n := by
  intro n
  induction n with
  | zero => rfl
  | succ n ih =>
    show (n + 1) * (n + 1 + 1) = 2 * (trN n + n + 1)
    rw [Nat.mul_add, Nat.mul_one, Nat.add_mul, Nat.mul_add, Nat.one_mul]
    rw [Nat.mul_add] at ih
    omega
theorem trN_le {a b : Nat} (h : a ≤ b) : trN a ≤ trN b := by
  induction b with
  | zero => rw [show a = 0 by omega]; exact Nat.le_refl _
  | succ b ih =>
    by_cases e : a = b + 1
    · rw [e]; exact Nat.le_refl _
    · have := ih (by omega)
      show trN a ≤ trN b + b + 1
      omega
theorem trN_lt {a b : Nat} (h : a < b) : trN a + a + 1 ≤ trN b := trN_le (a := a + 1) h
theorem trN_40 {a : Nat} (h : a ≤ 40) : trN a ≤ 820 := trN_le (b := 40) h
/-- the place of a span -/
def spn (low high : Int) : Int := (trN high.toNat : Int) + low
theorem spn_inj {a b a' b' : Int} (h : 0 ≤ a ∧ a ≤ b) (h' : 0 ≤ a' ∧ a' ≤ b') (e : spn a b = spn a' b') : a = a' ∧ b = b' := by
  unfold spn at e
  by_cases c : b = b'
  · rw [c] at e; omega
  · exfalso
    by_cases c2 : b < b'
    · have := trN_lt (a := b.toNat) (b := b'.toNat) (by omega); omega
    · have := trN_lt (a := b'.toNat) (b := b.toNat) (by omega); omega
theorem spn_in {a b : Int} (h : 0 ≤ a ∧ a ≤ b ∧ b ≤ 40) : 0 ≤ spn a b ∧ spn a b < 861 := by
  unfold spn
  have := trN_40 (a := b.toNat) (by omega)
  omega
theorem d_X11_spanAt {low high : Int} (h : 0 ≤ high ∧ high ≤ 40) : gd (g_X11_spanAt low high) T ν (spn low high) := by
  unfold g_X11_spanAt
  obtain ⟨k, rfl⟩ : ∃ k : Nat, high = k := ⟨high.toNat, by omega⟩
  have e : (k : Int) * ((k : Int) + 1) = 2 * (trN k : Int) := by
    have := trN_mul k
    have h2 : ((k * (k + 1) : Nat) : Int) = ((2 * trN k : Nat) : Int) := by rw [this]
    simpa using h2
  rw [e]
  have := trN_40 (a := k) (by omega)
  refine gd_dv ⟨⟨by omega, by omega⟩, by decide, by decide⟩ ?_
  rw [Int.mul_tdiv_cancel_left _ (by decide)]
  unfold spn
  rw [Int.toNat_natCast]
  exact gd_ret
end
