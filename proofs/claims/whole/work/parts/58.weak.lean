/-! WEAK: the least of falls, as a function -/
def gmn (f : Int → Int) (lo init : Int) : Nat → Int
  | 0 => init
  | n + 1 => min (gmn f lo init n) (f (lo + n))
theorem gmn_init (f : Int → Int) (lo init : Int) : ∀ n, gmn f lo init n ≤ init := by
  intro n
  induction n with
  | zero => exact Int.le_refl _
  | succ n ih => show min (gmn f lo init n) (f (lo + n)) ≤ init; omega
theorem gmn_le (f : Int → Int) (lo init : Int) : ∀ n k : Nat, k < n → gmn f lo init n ≤ f (lo + k) := by
  intro n
  induction n with
  | zero => intro k h; omega
  | succ n ih =>
    intro k h
    show min (gmn f lo init n) (f (lo + n)) ≤ f (lo + k)
    by_cases e : k = n
    · rw [e]; omega
    · have := ih k (by omega); omega
theorem le_gmn {f : Int → Int} {lo init c : Int} : ∀ n : Nat, c ≤ init → (∀ k : Nat, k < n → c ≤ f (lo + k)) → c ≤ gmn f lo init n := by
  intro n
  induction n with
  | zero => intro h _; exact h
  | succ n ih =>
    intro h hk
    have h1 := ih h (fun k h => hk k (by omega))
    have h2 := hk n (by omega)
    show c ≤ min (gmn f lo init n) (f (lo + n))
    omega
theorem gmn_mem (f : Int → Int) (lo init : Int) : ∀ n : Nat, gmn f lo init n = init ∨ ∃ k : Nat, k < n ∧ gmn f lo init n = f (lo + k) := by
  intro n
  induction n with
  | zero => exact Or.inl rfl
  | succ n ih =>
    show min (gmn f lo init n) (f (lo + n)) = init ∨ ∃ k : Nat, k < n + 1 ∧ min (gmn f lo init n) (f (lo + n)) = f (lo + k)
    by_cases c : f (lo + n) < gmn f lo init n
    · exact Or.inr ⟨n, by omega, by omega⟩
    · rcases ih with h | ⟨k, h1, h2⟩
      · exact Or.inl (by omega)
      · exact Or.inr ⟨k, by omega, by omega⟩
theorem gmn_stay {f : Int → Int} {lo init : Int} {a : Nat} : ∀ b : Nat, a ≤ b → (∀ k : Nat, a ≤ k → k < b → gmn f lo init a ≤ f (lo + k)) → gmn f lo init b = gmn f lo init a := by
  intro b
  induction b with
  | zero => intro h _; rw [show a = 0 by omega]
  | succ b ih =>
    intro h hk
    by_cases e : a = b + 1
    · rw [e]
    · have h1 := ih (by omega) (fun k x y => hk k x (by omega))
      have h2 := hk b (by omega) (by omega)
      show min (gmn f lo init b) (f (lo + b)) = gmn f lo init a
      omega
theorem gmn_congr {f g : Int → Int} {lo init : Int} : ∀ n : Nat, (∀ k : Nat, k < n → f (lo + k) = g (lo + k)) → gmn f lo init n = gmn g lo init n := by
  intro n
  induction n with
  | zero => intro _; rfl
  | succ n ih =>
    intro h
    show min (gmn f lo init n) (f (lo + n)) = min (gmn g lo init n) (g (lo + n))
    rw [ih (fun k x => h k (by omega)), h n (by omega)]
def wk (top d w : Int) (n : Nat) (low high m : Int) : Int :=
  if high ≤ low then 0 else
  match n with
  | 0 => 1000000
  | n + 1 => gmn (fun e => if h : low < e ∧ e ≤ high ∧ 1 ≤ e - (w * m - d) ∧ e - (w * m - d) ≤ top then 1 + max (wk top d w (n + 1) e high (m + 1)) (wk top d w n low (e - 1) 0) else 1000001) (low + 1) (wk top d w n low high 0) (high - low).toNat
termination_by (n, (high - low).toNat)
decreasing_by
  all_goals first
    | (apply Prod.Lex.left; omega)
    | (apply Prod.Lex.right; omega)
/-- what the fall that parts at e costs -/
def wkc (top d w : Int) (n : Nat) (low high m e : Int) : Int := if low < e ∧ e ≤ high ∧ 1 ≤ e - (w * m - d) ∧ e - (w * m - d) ≤ top then 1 + max (wk top d w (n + 1) e high (m + 1)) (wk top d w n low (e - 1) 0) else 1000001
theorem wk_eq (top d w : Int) (n : Nat) {low high : Int} (m : Int) (h : high ≤ low) : wk top d w n low high m = 0 := by
  rw [wk.eq_def, if_pos h]
theorem wk_zero (top d w : Int) {low high : Int} (m : Int) (h : low < high) : wk top d w 0 low high m = 1000000 := by
  rw [wk, if_neg (by omega)]
theorem wk_succ (top d w : Int) (n : Nat) {low high : Int} (m : Int) (h : low < high) : wk top d w (n + 1) low high m = gmn (wkc top d w n low high m) (low + 1) (wk top d w n low high 0) (high - low).toNat := by
  rw [wk, if_neg (by omega)]
  refine gmn_congr _ (fun k _ => ?_)
  unfold wkc
  split <;> rfl
theorem wk_cap (top d w : Int) : ∀ (n : Nat) (low high m : Int), wk top d w n low high m ≤ 1000000 := by
  intro n
  induction n with
  | zero =>
    intro low high m
    by_cases c : high ≤ low
    · rw [wk_eq _ _ _ _ _ c]; omega
    · rw [wk_zero _ _ _ _ (by omega)]; omega
  | succ n ih =>
    intro low high m
    by_cases c : high ≤ low
    · rw [wk_eq _ _ _ _ _ c]; omega
    · rw [wk_succ _ _ _ _ _ (by omega)]
      have := gmn_init (wkc top d w n low high m) (low + 1) (wk top d w n low high 0) (high - low).toNat
      have := ih low high 0
      omega
theorem wk_in (top d w : Int) : ∀ (n len : Nat) (low high m : Int), (high - low).toNat = len → low ≤ high → 0 ≤ wk top d w n low high m ∧ (wk top d w n low high m ≤ high - low ∨ wk top d w n low high m = 1000000) := by
  intro n
  induction n with
  | zero =>
    intro len low high m hlen hlh
    by_cases c : high ≤ low
    · rw [wk_eq _ _ _ _ _ c]; omega
    · rw [wk_zero _ _ _ _ (by omega)]; omega
  | succ n ihn =>
    intro len
    induction len using Nat.strongRecOn with
    | ind len ih =>
      intro low high m hlen hlh
      by_cases c : high ≤ low
      · rw [wk_eq _ _ _ _ _ c]; omega
      · rw [wk_succ _ _ _ _ _ (by omega)]
        have hi := ihn (high - low).toNat low high 0 rfl hlh
        have hle := gmn_init (wkc top d w n low high m) (low + 1) (wk top d w n low high 0) (high - low).toNat
        have hc : ∀ k : Nat, k < (high - low).toNat → (0 ≤ wkc top d w n low high m (low + 1 + k)) ∧ (wkc top d w n low high m (low + 1 + k) ≤ high - low ∨ 1000001 ≤ wkc top d w n low high m (low + 1 + k)) := fun k hk => by
          unfold wkc
          split
          · rename_i hh
            have a1 := ih (high - (low + 1 + k)).toNat (by omega) (low + 1 + k) high (m + 1) rfl (by omega)
            have a2 := ihn (low + 1 + k - 1 - low).toNat low (low + 1 + k - 1) 0 rfl (by omega)
            omega
          · omega
        refine ⟨le_gmn _ hi.1 (fun k hk => (hc k hk).1), ?_⟩
        rcases gmn_mem (wkc top d w n low high m) (low + 1) (wk top d w n low high 0) (high - low).toNat with e | ⟨k, hk, e⟩
        · rw [e]; exact hi.2
        · have := (hc k hk).2
          omega
theorem wk_mono (top d w : Int) : ∀ (n len : Nat) (low high m : Int), (high - low).toNat = len → low ≤ high → wk top d w n low high m ≤ wk top d w n low (high + 1) m := by
  intro n
  induction n with
  | zero =>
    intro len low high m hlen hlh
    rw [wk_zero _ _ _ _ (show low < high + 1 by omega)]
    have := wk_in top d w 0 _ low high m rfl hlh
    by_cases c : high ≤ low
    · rw [wk_eq _ _ _ _ _ c]; omega
    · rw [wk_zero _ _ _ _ (by omega)]; omega
  | succ n ihn =>
    intro len
    induction len using Nat.strongRecOn with
    | ind len ih =>
      intro low high m hlen hlh
      have hin := wk_in top d w (n + 1) _ low high m rfl hlh
      have hin1 := wk_in top d w (n + 1) _ low (high + 1) m rfl (by omega)
      have hcap := wk_cap top d w (n + 1) low high m
      by_cases c : high ≤ low
      · rw [wk_eq _ _ _ _ _ c]; exact hin1.1
      · have hinN : wk top d w (n + 1) low high m ≤ wk top d w n low high 0 := by rw [wk_succ _ _ _ _ _ (show low < high by omega)]; exact gmn_init _ _ _ _
        rw [wk_succ top d w n m (show low < high + 1 by omega)]
        refine le_gmn _ ?_ (fun k hk => ?_)
        · have := ihn _ low high 0 rfl hlh
          omega
        · unfold wkc
          split
          · rename_i hh
            by_cases ek : low + 1 + (k : Int) = high + 1
            · rw [show low + 1 + (k : Int) - 1 = high by omega]
              have := wk_in top d w (n + 1) _ (low + 1 + k) (high + 1) (m + 1) rfl (by omega)
              omega
            · have h1 : wk top d w (n + 1) low high m ≤ wkc top d w n low high m (low + 1 + k) := by
                rw [wk_succ _ _ _ _ _ (show low < high by omega)]
                exact gmn_le _ _ _ _ k (by omega)
              unfold wkc at h1
              rw [if_pos ⟨by omega, by omega, hh.2.2⟩] at h1
              have h2 := ih (high - (low + 1 + k)).toNat (by omega) (low + 1 + k) high (m + 1) rfl (by omega)
              omega
          · omega
theorem wk_mono' (top d w : Int) (n : Nat) (low high high' m : Int) (h : low ≤ high) (hh : high ≤ high') : wk top d w n low high m ≤ wk top d w n low high' m := by
  obtain ⟨k, hk⟩ : ∃ k : Nat, high' = high + k := ⟨(high' - high).toNat, by omega⟩
  subst hk
  clear hh
  induction k with
  | zero => rw [show high + ((0 : Nat) : Int) = high by omega]; exact Int.le_refl _
  | succ k ih =>
    have := wk_mono top d w n _ low (high + k) m rfl (by omega)
    rw [show high + ((k + 1 : Nat) : Int) = high + k + 1 by omega]
    omega
/-! the reference's rows -/
section
variable {T : gT} {ν : gN}
def wix (low high m n : Int) : Int := 5 * (41 * (41 * low + high) + m) + n
theorem d_X12_weakAt {top d w low high m : Int} {n : Nat} (hl : 0 ≤ low ∧ low ≤ high ∧ high ≤ 40) (hm : 0 ≤ m ∧ m ≤ 40) (hn : n ≤ 4) (h : low < high → n ≠ 0 → ν 93 (wix low high m n) = wk top d w n low high m) : gd (g_X12_weakAt low high m n) T ν (wk top d w n low high m) := by
  unfold g_X12_weakAt
  refine gd_cb ⟨⟨by omega, by omega⟩, ⟨by omega, by omega⟩⟩ (fun c => gd_cz ⟨by omega, by omega⟩ (fun c2 => gd_al ⟨by omega, by omega⟩ ?_) (fun c2 => ?_)) (fun c => ?_)
  · rw [← h (by omega) (by omega)]; exact gd_ret
  · rw [show n = 0 by omega, wk_zero _ _ _ _ (by omega)]; exact gd_ret
  · rw [wk_eq _ _ _ _ _ (by omega)]; exact gd_ret
/-- the rows that a span's best needs are there -/
def wkV (ν : gN) (top d w : Int) (n : Nat) (low high : Int) : Prop := ∀ (a b m : Int) (k : Nat), 0 ≤ a → a < b → b ≤ top → b - a < high - low → 1 ≤ k → k ≤ n → 0 ≤ m → m ≤ top - (b - a) → ν 93 (wix a b m k) = wk top d w k a b m
theorem wk_prod {w m : Int} (hw : 0 ≤ w ∧ w ≤ 3) (hm : 0 ≤ m ∧ m ≤ 41) : 0 ≤ w * m ∧ w * m ≤ 123 := by
  refine ⟨Int.mul_nonneg hw.1 hm.1, ?_⟩
  have : w * m ≤ 3 * m := Int.mul_le_mul_of_nonneg_right hw.2 hm.1
  omega
theorem d_X12_weakBest {low high m w : Int} {n nn : Nat} (ht : 1 ≤ ν (-6903) 0 ∧ ν (-6903) 0 ≤ 40) (hd : -9 ≤ ν 71 0 ∧ ν 71 0 ≤ 9) (hw : 0 ≤ w ∧ w ≤ 3) (hl : 0 ≤ low ∧ low < high ∧ high ≤ ν (-6903) 0) (hm : 0 ≤ m ∧ m ≤ ν (-6903) 0 - (high - low)) (hn : n + 1 ≤ nn ∧ nn ≤ 4) (hV : wkV ν (ν (-6903) 0) (ν 71 0) w nn low high) (h0 : n ≠ 0 → ν 93 (wix low high 0 n) = wk (ν (-6903) 0) (ν 71 0) w n low high 0) : gd (g_X12_weakBest low high m ((n + 1 : Nat) : Int) w) T ν (wk (ν (-6903) 0) (ν 71 0) w (n + 1) low high m) := by
  generalize etop : ν (-6903) 0 = top at *
  generalize ed : ν 71 0 = d at *
  have hp := wk_prod hw (show 0 ≤ m ∧ m ≤ 41 by omega)
  have hin0 := wk_in top d w n _ low high 0 rfl (by omega)
  have hloop : gd (g_X12_weakBest_28 low high m ((n + 1 : Nat) : Int) w (wk top d w n low high 0) 1) T ν (wk top d w (n + 1) low high m) := by
    rw [wk_succ _ _ _ _ _ hl.2.1]
    unfold g_X12_weakBest_28
    refine gd_fx (fun (s : Int × Int) => ∃ j : Nat, s.2 = j ∧ 1 ≤ j ∧ j ≤ top + 1 ∧ s.1 = gmn (wkc top d w n low high m) (low + 1) (wk top d w n low high 0) (min high (j - 1 + (w * m - d)) - low).toNat) (fun s => 50 - s.2.toNat) ⟨1, rfl, by omega, by omega, ?_⟩ (by show 50 - (1 : Int).toNat < 100000; omega) ?_
    · show wk top d w n low high 0 = _
      rw [gmn_stay (a := 0) _ (by omega) (fun k _ hk => ?_)]
      · rfl
      · show wk top d w n low high 0 ≤ wkc top d w n low high m (low + 1 + k)
        unfold wkc
        rw [if_neg (by omega)]
        omega
    · intro rec s hI hrec
      obtain ⟨j, e2, hj1, hj, e1⟩ := hI
      have hx6 : s.1 ≤ 1000000 ∧ 0 ≤ s.1 := by
        rw [e1]
        have h1 := gmn_init (wkc top d w n low high m) (low + 1) (wk top d w n low high 0) (min high (j - 1 + (w * m - d)) - low).toNat
        refine ⟨by omega, le_gmn _ hin0.1 (fun k hk => ?_)⟩
        unfold wkc
        split
        · have a1 := wk_in top d w (n + 1) _ (low + 1 + k) high (m + 1) rfl (by omega)
          omega
        · omega
      unfold gB_X12_weakBest_28 g_X12_weakBest_132
      refine gd_get ?_
      rw [e2, etop]
      refine gd_cb ⟨⟨by omega, by omega⟩, ⟨by omega, by omega⟩⟩ (fun c => gd_cb ⟨⟨by omega, by omega⟩, ⟨by omega, by omega⟩⟩ (fun c2 => ?_) (fun c2 => by omega)) (fun c => gd_al ⟨by omega, by omega⟩ (gd_let ?_))
      · rw [gmn_stay (a := (min high (j - 1 + (w * m - d)) - low).toNat) _ (by omega) (fun k k1 k2 => ?_), ← e1]
        · exact gd_ret
        · rw [← e1]
          show s.1 ≤ wkc top d w n low high m (low + 1 + k)
          unfold wkc
          rw [if_neg (by omega)]
          omega
      · rw [ed]
        have hz' : 50 - ((j : Int) + 1).toNat < 50 - s.2.toNat := by rw [e2]; omega
        refine gd_cb ⟨⟨by omega, by omega⟩, ⟨by omega, by omega⟩⟩ (fun c2 => gd_let (hrec _ ⟨j + 1, by show (j : Int) + 1 = _; omega, by omega, by omega, ?_⟩ hz')) (fun c2 => gd_cb ⟨⟨by omega, by omega⟩, ⟨by omega, by omega⟩⟩ (fun c3 => ?_) (fun c3 => gd_let (hrec _ ⟨j + 1, by show (j : Int) + 1 = _; omega, by omega, by omega, ?_⟩ hz')))
        · show s.1 = _
          rw [e1]
          congr 1
          omega
        · generalize he : (j : Int) - d + w * m = e at *
          have hwh := d_X12_weakAt (T := T) (top := top) (d := d) (w := w) (low := e) (high := high) (m := m + 1) (n := n + 1) (by omega) (by omega) (by omega) (fun a b => hV e high (m + 1) (n + 1) (by omega) a (by omega) (by omega) (by omega) (by omega) (by omega) (by omega))
          have hbr := d_X12_weakAt (T := T) (top := top) (d := d) (w := w) (low := low) (high := e - 1) (m := 0) (n := n) (by omega) (by omega) (by omega) (fun a b => hV low (e - 1) 0 n (by omega) a (by omega) (by omega) (by omega) (by omega) (by omega) (by omega))
          have b1 := wk_in top d w (n + 1) _ e high (m + 1) rfl (by omega)
          have b2 := wk_in top d w n _ low (e - 1) 0 rfl (by omega)
          have e3 : ((n + 1 : Nat) : Int) - 1 = n := by omega
          refine gd_rd hwh ?_
          rw [e3]
          refine gd_rd hbr (gd_ck ⟨⟨by omega, by omega⟩, ⟨by omega, by omega⟩⟩ (gd_let (gd_let ?_)))
          have em : (if wk top d w (n + 1) e high (m + 1) ≤ wk top d w n low (e - 1) 0 then wk top d w n low (e - 1) 0 else wk top d w (n + 1) e high (m + 1)) = max (wk top d w (n + 1) e high (m + 1)) (wk top d w n low (e - 1) 0) := by split <;> omega
          rw [em]
          refine gd_ck ⟨⟨by omega, by omega⟩, ⟨by omega, by omega⟩⟩ (gd_let (gd_let (hrec _ ⟨j + 1, by show (j : Int) + 1 = _; omega, by omega, by omega, ?_⟩ hz')))
          show (if s.1 ≤ 1 + max (wk top d w (n + 1) e high (m + 1)) (wk top d w n low (e - 1) 0) then s.1 else 1 + max (wk top d w (n + 1) e high (m + 1)) (wk top d w n low (e - 1) 0)) = _
          rw [show (min high (((j + 1 : Nat) : Int) - 1 + (w * m - d)) - low).toNat = (min high (j - 1 + (w * m - d)) - low).toNat + 1 by omega]
          show _ = min (gmn _ _ _ (min high (j - 1 + (w * m - d)) - low).toNat) (wkc top d w n low high m (low + 1 + ((min high (j - 1 + (w * m - d)) - low).toNat : Int)))
          rw [← e1, show low + 1 + ((min high (j - 1 + (w * m - d)) - low).toNat : Int) = e by omega]
          have ew : wkc top d w n low high m e = 1 + max (wk top d w (n + 1) e high (m + 1)) (wk top d w n low (e - 1) 0) := by unfold wkc; rw [if_pos (by omega)]
          rw [ew]
          split <;> omega
        · show s.1 = _
          rw [e1]
          congr 1
          omega
  unfold g_X12_weakBest g_X12_weakBest_23
  refine gd_cb ⟨⟨by omega, by omega⟩, ⟨by omega, by omega⟩⟩ (fun c => ?_) (fun c => ?_)
  · have en : n = 0 := by omega
    subst en
    rw [wk_zero _ _ _ _ hl.2.1] at hloop
    exact hloop
  · have hat := d_X12_weakAt (T := T) (top := top) (d := d) (w := w) (low := low) (high := high) (m := 0) (n := n) (by omega) (by omega) (by omega) (fun a b => h0 b)
    rw [show ((n + 1 : Nat) : Int) - 1 = n by omega]
    exact gd_rd hat hloop
end
