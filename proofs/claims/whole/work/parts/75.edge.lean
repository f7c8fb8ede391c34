/-! EDGE: how the best moves with a price -/
def pw (p : bP) (k q : Int) : bP := (p.1, bTop p, bFc p, bCc p, bD p, (fun j => if j = k then q else bPr p j), bW p)
theorem pw_ok {p : bP} (h : okP p) {k q : Int} (hq : 0 ≤ q ∧ q ≤ 99) : okP (pw p k q) := by
  refine ⟨h.1, h.2.1, h.2.2.1, fun j hj => ⟨(h.2.2.2.1 j hj).1, ?_⟩, h.2.2.2.2⟩
  show 0 ≤ (if j = k then q else bPr p j) ∧ (if j = k then q else bPr p j) ≤ 99
  have := (h.2.2.2.1 j hj).2
  split <;> omega
theorem pw_pr (p : bP) (k q j : Int) : bPr (pw p k q) j = if j = k then q else bPr p j := rfl
theorem pw_pw (p : bP) (k q q' : Int) : pw (pw p k q) k q' = pw p k q' := by
  unfold pw
  have e : (fun j => if j = k then q' else bPr (p.1, bTop p, bFc p, bCc p, bD p, (fun j => if j = k then q else bPr p j), bW p) j) = (fun j => if j = k then q' else bPr p j) := by
    funext j
    by_cases e : j = k
    · rw [if_pos e, if_pos e]
    · rw [if_neg e, if_neg e]
      show (if j = k then q else bPr p j) = bPr p j
      rw [if_neg e]
  rw [e]
  rfl
theorem pw_self (p : bP) (k : Int) : pw p k (bPr p k) = p := by
  unfold pw
  have e : (fun j => if j = k then bPr p k else bPr p j) = bPr p := by
    funext j
    by_cases e : j = k
    · rw [if_pos e, e]
    · rw [if_neg e]
  rw [e]
  rfl
theorem bx_price {p : bP} (h : okP p) {k q q' low high c j e wh br wh' br' : Int} (hq : q ≤ q') (hl : 0 ≤ low) (he : low < e ∧ e ≤ high) (h40 : high ≤ 40) (hw : wh ≤ wh') (hb : br ≤ br') : bx (pw p k q) low high c j e wh br ≤ bx (pw p k q') low high c j e wh' br' ∨ 1000000000000 ≤ bx (pw p k q') low high c j e wh' br' := by
  unfold bx
  by_cases cc : 0 < pcs c j ∧ (1 ≤ e + bD (pw p k q') j ∧ e + bD (pw p k q') j ≤ bTop (pw p k q')) ∧ wh' < 1000000000000 ∧ br' < 1000000000000
  · rw [if_pos cc, if_pos (show 0 < pcs c j ∧ (1 ≤ e + bD (pw p k q) j ∧ e + bD (pw p k q) j ≤ bTop (pw p k q)) ∧ wh < 1000000000000 ∧ br < 1000000000000 from ⟨cc.1, cc.2.1, by omega, by omega⟩)]
    left
    have hpr : bPr (pw p k q) j ≤ bPr (pw p k q') j := by rw [pw_pr, pw_pr]; split <;> omega
    have w2 := h.2.2.2.2 low e hl (by omega) (by omega)
    have m2 : bPr (pw p k q) j * (bW p e - bW p low) ≤ bPr (pw p k q') j * (bW p e - bW p low) := Int.mul_le_mul_of_nonneg_right hpr w2.1
    by_cases cm : p.1 = true
    · rw [if_pos (show (pw p k q).1 = true from cm), if_pos (show (pw p k q').1 = true from cm)]
      show wh + br + (bFc p + bCc p * (e + bD p j)) * (bW p (high + 1) - bW p low) + bPr (pw p k q) j * (bW p e - bW p low) ≤ wh' + br' + (bFc p + bCc p * (e + bD p j)) * (bW p (high + 1) - bW p low) + bPr (pw p k q') j * (bW p e - bW p low)
      omega
    · rw [if_neg (show ¬ (pw p k q).1 = true from cm), if_neg (show ¬ (pw p k q').1 = true from cm)]
      show bFc p + bCc p * (e + bD p j) + max wh (br + bPr (pw p k q) j) ≤ bFc p + bCc p * (e + bD p j) + max wh' (br' + bPr (pw p k q') j)
      omega
  · rw [if_neg cc]; right; omega
theorem bv_price {p : bP} (h : okP p) {k q q' : Int} (h0 : 0 ≤ q) (hq : q ≤ q') (h9 : q' ≤ 99) : ∀ (len : Nat) (low high c : Int), (high - low).toNat = len → 0 ≤ low → low ≤ high → high ≤ 40 → bv (pw p k q) low high c ≤ bv (pw p k q') low high c := by
  intro len
  induction len using Nat.strongRecOn with
  | ind len ih =>
    intro low high c hlen hl h1 h40
    by_cases cc : high ≤ low
    · rw [bv_known _ _ cc, bv_known _ _ cc]; omega
    · have hcap := bv_cap (p := pw p k q) (low := low) (high := high) (c := c) (by omega)
      refine le_bv (by omega) hcap (fun j e hj e1 e2 => ?_)
      have hle := bv_le (p := pw p k q) (c := c) hj e1 e2
      have hw := ih (high - e).toNat (by omega) e high c rfl (by omega) e2 h40
      have hb := ih (e - 1 - low).toNat (by omega) low (e - 1) (c - un j) rfl hl (by omega) (by omega)
      have hm := bx_price h (k := k) (c := c) (j := j) (e := e) hq hl ⟨e1, e2⟩ h40 hw hb
      unfold bc at hle ⊢
      omega
theorem bc_price {p : bP} (h : okP p) {k q q' low high c j e : Int} (h0 : 0 ≤ q) (hq : q ≤ q') (h9 : q' ≤ 99) (hj : isK j) (hl : 0 ≤ low) (h40 : high ≤ 40) (e1 : low < e) (e2 : e ≤ high) : bc (pw p k q) low high c j e ≤ bc (pw p k q') low high c j e := by
  have hw := bv_price h (k := k) h0 hq h9 _ e high c rfl (by omega) e2 h40
  have hb := bv_price h (k := k) h0 hq h9 _ low (e - 1) (c - un j) rfl hl (by omega) (by omega)
  have hm := bx_price h (k := k) (c := c) (j := j) (e := e) hq hl ⟨e1, e2⟩ h40 hw hb
  have hcap := (bc_nonneg (pw_ok h (k := k) (q := q) (by omega)) (c := c) hj hl h40 e1 e2).2
  unfold bc at hcap ⊢
  omega
/-- whether it can be has nothing to do with the price -/
theorem bv_fin {p : bP} (h : okP p) {k q q' : Int} (h0 : 0 ≤ q ∧ q ≤ 99) (h0' : 0 ≤ q' ∧ q' ≤ 99) : ∀ (len : Nat) (low high c : Int), (high - low).toNat = len → 0 ≤ low → low ≤ high → high ≤ 40 → bv (pw p k q) low high c < 1000000000000 → bv (pw p k q') low high c < 1000000000000 := by
  intro len
  induction len using Nat.strongRecOn with
  | ind len ih =>
    intro low high c hlen hl h1 h40 hlt
    by_cases cc : high ≤ low
    · rw [bv_known _ _ cc]; omega
    · rcases bv_mem (p := pw p k q) (low := low) (high := high) (c := c) (by omega) with g | ⟨j, e, hj, e1, e2, g⟩
      · omega
      · rw [g] at hlt
        have hle := bv_le (p := pw p k q') (c := c) hj e1 e2
        unfold bc bx at hlt
        by_cases c9 : 0 < pcs c j ∧ (1 ≤ e + bD (pw p k q) j ∧ e + bD (pw p k q) j ≤ bTop (pw p k q)) ∧ bv (pw p k q) e high c < 1000000000000 ∧ bv (pw p k q) low (e - 1) (c - un j) < 1000000000000
        · have w' := ih (high - e).toNat (by omega) e high c rfl (by omega) e2 h40 c9.2.2.1
          have b' := ih (e - 1 - low).toNat (by omega) low (e - 1) (c - un j) rfl hl (by omega) (by omega) c9.2.2.2
          have hw0 := bv_in (pw_ok h (k := k) h0') _ e high c rfl (by omega) e2 h40
          have hb0 := bv_in (pw_ok h (k := k) h0') _ low (e - 1) (c - un j) rfl hl (by omega) (by omega)
          have hin := bx_in (pw_ok h (k := k) h0') (c := c) hj hl h40 ⟨e1, e2⟩ hw0.1 hb0.1
          unfold bc at hle
          rcases hin.2 with g1 | ⟨g1, g2, g3⟩
          · exfalso
            unfold bx at g1
            rw [if_pos (show 0 < pcs c j ∧ (1 ≤ e + bD (pw p k q') j ∧ e + bD (pw p k q') j ≤ bTop (pw p k q')) ∧ bv (pw p k q') e high c < 1000000000000 ∧ bv (pw p k q') low (e - 1) (c - un j) < 1000000000000 from ⟨c9.1, c9.2.1, w', b'⟩)] at g1
            have hco := cost_in (pw_ok h (k := k) h0') (s := e + bD (pw p k q') j) c9.2.1
            have h4 := (pw_ok h (k := k) h0').2.2.2.1 j hj
            have w1 := h.2.2.2.2 low (high + 1) hl (by omega) (by omega)
            have w2 := h.2.2.2.2 low e hl (by omega) (by omega)
            have m1 := mul_in (x := bFc (pw p k q') + bCc (pw p k q') * (e + bD (pw p k q') j)) (X := 459) (y := bW (pw p k q') (high + 1) - bW (pw p k q') low) (Y := 4059) hco w1
            have m2 := mul_in (x := bPr (pw p k q') j) (X := 99) (y := bW (pw p k q') e - bW (pw p k q') low) (Y := 4059) h4.2 w2
            revert g1
            split
            · intro g1; omega
            · intro g1; omega
          · omega
        · rw [if_neg c9] at hlt; omega
/-- by the mean it bends down alone -/
theorem bc_bend_of {p : bP} (h : okP p) (hm : p.1 = true) {k q low high c j e : Int} (h0 : 0 ≤ q ∧ q + 2 ≤ 99) (hj : isK j) (hl : 0 ≤ low) (h40 : high ≤ 40) (e1 : low < e) (e2 : e ≤ high) (hw : bv (pw p k q) e high c + bv (pw p k (q + 2)) e high c ≤ 2 * bv (pw p k (q + 1)) e high c) (hb : bv (pw p k q) low (e - 1) (c - un j) + bv (pw p k (q + 2)) low (e - 1) (c - un j) ≤ 2 * bv (pw p k (q + 1)) low (e - 1) (c - un j)) : bc (pw p k q) low high c j e + bc (pw p k (q + 2)) low high c j e ≤ 2 * bc (pw p k (q + 1)) low high c j e := by
  have fw : ∀ a b : Int, 0 ≤ a ∧ a ≤ 99 → 0 ≤ b ∧ b ≤ 99 → bv (pw p k a) e high c < 1000000000000 → bv (pw p k b) e high c < 1000000000000 := fun a b ha hb => bv_fin h ha hb _ e high c rfl (by omega) e2 h40
  have fb : ∀ a b : Int, 0 ≤ a ∧ a ≤ 99 → 0 ≤ b ∧ b ≤ 99 → bv (pw p k a) low (e - 1) (c - un j) < 1000000000000 → bv (pw p k b) low (e - 1) (c - un j) < 1000000000000 := fun a b ha hb => bv_fin h ha hb _ low (e - 1) (c - un j) rfl hl (by omega) (by omega)
  by_cases cc : 0 < pcs c j ∧ (1 ≤ e + bD p j ∧ e + bD p j ≤ bTop p) ∧ bv (pw p k (q + 1)) e high c < 1000000000000 ∧ bv (pw p k (q + 1)) low (e - 1) (c - un j) < 1000000000000
  · have hx : ∀ a : Int, 0 ≤ a ∧ a ≤ 99 → bc (pw p k a) low high c j e = bv (pw p k a) e high c + bv (pw p k a) low (e - 1) (c - un j) + (bFc p + bCc p * (e + bD p j)) * (bW p (high + 1) - bW p low) + (if j = k then a else bPr p j) * (bW p e - bW p low) := fun a ha => by
      unfold bc bx
      rw [if_pos (show 0 < pcs c j ∧ (1 ≤ e + bD (pw p k a) j ∧ e + bD (pw p k a) j ≤ bTop (pw p k a)) ∧ bv (pw p k a) e high c < 1000000000000 ∧ bv (pw p k a) low (e - 1) (c - un j) < 1000000000000 from ⟨cc.1, cc.2.1, fw (q + 1) a (by omega) ha cc.2.2.1, fb (q + 1) a (by omega) ha cc.2.2.2⟩), if_pos (show (pw p k a).1 = true from hm)]
      rfl
    rw [hx q (by omega), hx (q + 1) (by omega), hx (q + 2) (by omega)]
    have hlin : (if j = k then q else bPr p j) * (bW p e - bW p low) + (if j = k then q + 2 else bPr p j) * (bW p e - bW p low) = 2 * ((if j = k then q + 1 else bPr p j) * (bW p e - bW p low)) := by
      rw [← Int.add_mul, ← Int.mul_assoc]
      congr 1
      split <;> omega
    omega
  · have hy : ∀ a : Int, 0 ≤ a ∧ a ≤ 99 → bc (pw p k a) low high c j e = 1000000000000 := fun a ha => by
      unfold bc bx
      rw [if_neg (fun hh : 0 < pcs c j ∧ (1 ≤ e + bD (pw p k a) j ∧ e + bD (pw p k a) j ≤ bTop (pw p k a)) ∧ bv (pw p k a) e high c < 1000000000000 ∧ bv (pw p k a) low (e - 1) (c - un j) < 1000000000000 => cc ⟨hh.1, hh.2.1, fw a (q + 1) ha (by omega) hh.2.2.1, fb a (q + 1) ha (by omega) hh.2.2.2⟩)]
    rw [hy q (by omega), hy (q + 1) (by omega), hy (q + 2) (by omega)]
    omega
theorem bv_bend {p : bP} (h : okP p) (hm : p.1 = true) {k q : Int} (h0 : 0 ≤ q ∧ q + 2 ≤ 99) : ∀ (len : Nat) (low high c : Int), (high - low).toNat = len → 0 ≤ low → low ≤ high → high ≤ 40 → bv (pw p k q) low high c + bv (pw p k (q + 2)) low high c ≤ 2 * bv (pw p k (q + 1)) low high c := by
  intro len
  induction len using Nat.strongRecOn with
  | ind len ih =>
    intro low high c hlen hl h1 h40
    by_cases cc : high ≤ low
    · rw [bv_known _ _ cc, bv_known _ _ cc, bv_known _ _ cc]; omega
    · rcases bv_mem (p := pw p k (q + 1)) (low := low) (high := high) (c := c) (by omega) with g | ⟨j, e, hj, e1, e2, g⟩
      · have c1 := bv_cap (p := pw p k q) (low := low) (high := high) (c := c) (by omega)
        have c2 := bv_cap (p := pw p k (q + 2)) (low := low) (high := high) (c := c) (by omega)
        omega
      · have hb1 := bc_bend_of h hm (k := k) (c := c) h0 hj hl h40 e1 e2 (ih (high - e).toNat (by omega) e high c rfl (by omega) e2 h40) (ih (e - 1 - low).toNat (by omega) low (e - 1) (c - un j) rfl hl (by omega) (by omega))
        have l1 := bv_le (p := pw p k q) (c := c) hj e1 e2
        have l2 := bv_le (p := pw p k (q + 2)) (c := c) hj e1 e2
        omega
theorem bc_bend {p : bP} (h : okP p) (hm : p.1 = true) {k q low high c j e : Int} (h0 : 0 ≤ q ∧ q + 2 ≤ 99) (hj : isK j) (hl : 0 ≤ low) (h40 : high ≤ 40) (e1 : low < e) (e2 : e ≤ high) : bc (pw p k q) low high c j e + bc (pw p k (q + 2)) low high c j e ≤ 2 * bc (pw p k (q + 1)) low high c j e :=
  bc_bend_of h hm h0 hj hl h40 e1 e2 (bv_bend h hm h0 _ e high c rfl (by omega) e2 h40) (bv_bend h hm h0 _ low (e - 1) (c - un j) rfl hl (by omega) (by omega))
/-! functions that bend down alone -/
def bend (f : Int → Int) (a b : Int) : Prop := ∀ i : Int, a ≤ i → i + 2 ≤ b → f i + f (i + 2) ≤ 2 * f (i + 1)
theorem bend_slope {f : Int → Int} {a b : Int} (h : bend f a b) {i : Int} (hi : a ≤ i) : ∀ n : Nat, i + n + 1 ≤ b → f (i + n + 1) - f (i + n) ≤ f (i + 1) - f i := by
  intro n
  induction n with
  | zero => intro _; rw [show i + ((0 : Nat) : Int) = i by omega]; omega
  | succ n ih =>
    intro hn
    have h1 := ih (by omega)
    have h2 := h (i + n) (by omega) (by omega)
    rw [show i + ((n + 1 : Nat) : Int) + 1 = i + n + 2 by omega, show i + ((n + 1 : Nat) : Int) = i + n + 1 by omega]
    omega
theorem bend_s {f : Int → Int} {a b i j : Int} (h : bend f a b) (hi : a ≤ i) (hij : i ≤ j) (hj : j + 1 ≤ b) : f (j + 1) - f j ≤ f (i + 1) - f i := by
  have := bend_slope h hi (j - i).toNat (by omega)
  rw [show i + ((j - i).toNat : Int) = j by omega] at this
  exact this
/-- a rise is at most so many times the slope at its beginning, at least so many times that at its end -/
theorem bend_up {f : Int → Int} {a b x : Int} (h : bend f a b) (hx : a ≤ x) : ∀ n : Nat, x + n ≤ b → x + 1 ≤ b → f (x + n) - f x ≤ n * (f (x + 1) - f x) := by
  intro n
  induction n with
  | zero => intro _ _; rw [show x + ((0 : Nat) : Int) = x by omega, show ((0 : Nat) : Int) = 0 from rfl, Int.zero_mul]; omega
  | succ n ih =>
    intro hn h1
    have h2 := ih (by omega) h1
    have h3 := bend_s h hx (j := x + n) (by omega) (by omega)
    rw [show x + ((n + 1 : Nat) : Int) = x + n + 1 by omega, show (((n + 1 : Nat) : Int)) = (n : Int) + 1 by omega, Int.add_mul, Int.one_mul]
    omega
theorem bend_lo {f : Int → Int} {a b y : Int} (h : bend f a b) (hy : y ≤ b) : ∀ n : Nat, a ≤ y - n → a ≤ y - 1 → n * (f y - f (y - 1)) ≤ f y - f (y - n) := by
  intro n
  induction n with
  | zero => intro _ _; rw [show y - ((0 : Nat) : Int) = y by omega, show ((0 : Nat) : Int) = 0 from rfl, Int.zero_mul]; omega
  | succ n ih =>
    intro hn h1
    have h2 := ih (by omega) h1
    have h3 := bend_s h (i := y - n - 1) (j := y - 1) (by omega) (by omega) (by omega)
    rw [show y - 1 + 1 = y by omega, show y - (n : Int) - 1 + 1 = y - n by omega] at h3
    rw [show y - ((n + 1 : Nat) : Int) = y - n - 1 by omega, show (((n + 1 : Nat) : Int)) = (n : Int) + 1 by omega, Int.add_mul, Int.one_mul]
    omega
theorem bend_line {f : Int → Int} {a m b : Int} (h : bend f a b) (h1 : a < m) (h2 : m < b) (he : (f m - f a) * (b - m) = (f b - f m) * (m - a)) : ∃ s : Int, ∀ q : Int, a ≤ q → q ≤ b → f q = f a + (q - a) * s := by
  have l1 := bend_lo h (y := m) (by omega) (m - a).toNat (by omega) (by omega)
  have u1 := bend_up h (x := m) (by omega) (b - m).toNat (by omega) (by omega)
  have s1 := bend_s h (i := m - 1) (j := m) (by omega) (by omega) (by omega)
  rw [show m - ((m - a).toNat : Int) = a by omega, show ((m - a).toNat : Int) = m - a by omega] at l1
  rw [show m + ((b - m).toNat : Int) = b by omega, show ((b - m).toNat : Int) = b - m by omega] at u1
  rw [show m - 1 + 1 = m by omega] at s1
  generalize hA : f m - f (m - 1) = A at *
  generalize hB : f (m + 1) - f m = B at *
  have k1 : (m - a) * A * (b - m) ≤ (f m - f a) * (b - m) := Int.mul_le_mul_of_nonneg_right l1 (by omega)
  have k2 : (f b - f m) * (m - a) ≤ (b - m) * B * (m - a) := Int.mul_le_mul_of_nonneg_right u1 (by omega)
  have k3 : (m - a) * (b - m) * A ≤ (m - a) * (b - m) * B := by
    rw [show (m - a) * (b - m) * A = (m - a) * A * (b - m) by rw [Int.mul_right_comm], show (m - a) * (b - m) * B = (b - m) * B * (m - a) by rw [Int.mul_comm (m - a) (b - m), Int.mul_right_comm]]
    omega
  have hpos : 0 < (m - a) * (b - m) := Int.mul_pos (by omega) (by omega)
  have k4 : A ≤ B := Int.le_of_mul_le_mul_left k3 hpos
  have hAB : A = B := by omega
  subst hAB
  have g1 : f m - f a = (m - a) * A := by
    have k5 : (f m - f a) * (b - m) ≤ (m - a) * A * (b - m) := by
      rw [he]
      have : (b - m) * A * (m - a) = (m - a) * A * (b - m) := by rw [Int.mul_comm (b - m) A, Int.mul_comm (m - a) A, Int.mul_assoc, Int.mul_assoc, Int.mul_comm (b - m)]
      omega
    have := Int.le_of_mul_le_mul_right k5 (show 0 < b - m by omega)
    omega
  have g2 : f b - f m = (b - m) * A := by
    have k5 : (b - m) * A * (m - a) ≤ (f b - f m) * (m - a) := by
      rw [← he, g1]
      have : (b - m) * A * (m - a) = (m - a) * A * (b - m) := by rw [Int.mul_comm (b - m) A, Int.mul_comm (m - a) A, Int.mul_assoc, Int.mul_assoc, Int.mul_comm (b - m)]
      omega
    have := Int.le_of_mul_le_mul_right k5 (show 0 < m - a by omega)
    omega
  refine ⟨A, fun q hq1 hq2 => ?_⟩
  by_cases cq : q ≤ m
  · have p1 := bend_lo h (y := m) (by omega) (m - q).toNat (by omega) (by omega)
    rw [show m - ((m - q).toNat : Int) = q by omega, show ((m - q).toNat : Int) = m - q by omega, hA] at p1
    by_cases c0 : q = a
    · rw [c0, Int.sub_self, Int.zero_mul]; omega
    · have p2 := bend_lo h (y := q) (by omega) (q - a).toNat (by omega) (by omega)
      rw [show q - ((q - a).toNat : Int) = a by omega, show ((q - a).toNat : Int) = q - a by omega] at p2
      have p3 := bend_s h (i := q - 1) (j := m - 1) (by omega) (by omega) (by omega)
      rw [show m - 1 + 1 = m by omega, show q - 1 + 1 = q by omega, hA] at p3
      have p4 : (q - a) * A ≤ (q - a) * (f q - f (q - 1)) := Int.mul_le_mul_of_nonneg_left p3 (by omega)
      have p5 : (m - a) * A = (m - q) * A + (q - a) * A := by rw [← Int.add_mul]; congr 1; omega
      omega
  · have p1 := bend_up h (x := m) (by omega) (q - m).toNat (by omega) (by omega)
    rw [show m + ((q - m).toNat : Int) = q by omega, show ((q - m).toNat : Int) = q - m by omega, hB] at p1
    have p5 : (q - a) * A = (q - m) * A + (m - a) * A := by rw [← Int.add_mul]; congr 1; omega
    by_cases c0 : q = b
    · subst c0; omega
    · have p2 := bend_up h (x := q) (by omega) (b - q).toNat (by omega) (by omega)
      rw [show q + ((b - q).toNat : Int) = b by omega, show ((b - q).toNat : Int) = b - q by omega] at p2
      have p3 := bend_s h (i := m) (j := q) (by omega) (by omega) (by omega)
      rw [hB] at p3
      have p4 : (b - q) * (f (q + 1) - f q) ≤ (b - q) * A := Int.mul_le_mul_of_nonneg_left p3 (by omega)
      have p6 : (b - m) * A = (b - q) * A + (q - m) * A := by rw [← Int.add_mul]; congr 1; omega
      omega
theorem bend_least {f : Int → Int} {a b c q : Int} (h : bend f a b) (ha : c ≤ f a) (hb : c ≤ f b) (h1 : a ≤ q) (h2 : q ≤ b) : c ≤ f q := by
  apply Classical.byContradiction
  intro hn
  have ha' : a < q := Classical.byContradiction (fun hh => by rw [show q = a by omega] at hn; exact hn ha)
  have hb' : q < b := Classical.byContradiction (fun hh => by rw [show q = b by omega] at hn; exact hn hb)
  have l1 := bend_lo h (y := q) (by omega) (q - a).toNat (by omega) (by omega)
  rw [show q - ((q - a).toNat : Int) = a by omega, show ((q - a).toNat : Int) = q - a by omega] at l1
  have s0 : f q - f (q - 1) < 0 := Classical.byContradiction (fun hh => by
    have := Int.mul_nonneg (show 0 ≤ q - a by omega) (show 0 ≤ f q - f (q - 1) by omega)
    omega)
  have s1 := bend_s h (i := q - 1) (j := q) (by omega) (by omega) (by omega)
  rw [show q - 1 + 1 = q by omega] at s1
  have u1 := bend_up h (x := q) (by omega) (b - q).toNat (by omega) (by omega)
  rw [show q + ((b - q).toNat : Int) = b by omega, show ((b - q).toNat : Int) = b - q by omega] at u1
  have k : (b - q) * (f (q + 1) - f q) ≤ (b - q) * 0 := Int.mul_le_mul_of_nonneg_left (by omega) (by omega)
  rw [Int.mul_zero] at k
  omega
