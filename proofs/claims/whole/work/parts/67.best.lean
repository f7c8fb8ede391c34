/-! BEST: as a function of the law's numbers -/
abbrev bP : Type := Bool × Int × Int × Int × (Int → Int) × (Int → Int) × (Int → Int)
def bTop (p : bP) : Int := p.2.1
def bFc (p : bP) : Int := p.2.2.1
def bCc (p : bP) : Int := p.2.2.2.1
def bD (p : bP) : Int → Int := p.2.2.2.2.1
def bPr (p : bP) : Int → Int := p.2.2.2.2.2.1
def bW (p : bP) : Int → Int := p.2.2.2.2.2.2
def un (k : Int) : Int := if k = 0 then 1 else if k = 1 then 5 else 25
def pcs (c k : Int) : Int := c / un k % 5
def bx (p : bP) (low high c k e wh br : Int) : Int :=
  if 0 < pcs c k ∧ (1 ≤ e + bD p k ∧ e + bD p k ≤ bTop p) ∧ wh < 1000000000000 ∧ br < 1000000000000 then
    (if p.1 then wh + br + (bFc p + bCc p * (e + bD p k)) * (bW p (high + 1) - bW p low) + bPr p k * (bW p e - bW p low) else bFc p + bCc p * (e + bD p k) + max wh (br + bPr p k))
  else 1000000000000
def bv (p : bP) (low high c : Int) : Int :=
  if high ≤ low then 0 else
  gmn (fun e => if h : low < e ∧ e ≤ high then bx p low high c 2 e (bv p e high c) (bv p low (e - 1) (c - 25)) else 1000000000000) (low + 1)
    (gmn (fun e => if h : low < e ∧ e ≤ high then bx p low high c 1 e (bv p e high c) (bv p low (e - 1) (c - 5)) else 1000000000000) (low + 1)
      (gmn (fun e => if h : low < e ∧ e ≤ high then bx p low high c 0 e (bv p e high c) (bv p low (e - 1) (c - 1)) else 1000000000000) (low + 1) 1000000000000 (high - low).toNat) (high - low).toNat) (high - low).toNat
termination_by (high - low).toNat
decreasing_by
  all_goals omega
/-- what the fall of a kind that parts at e costs -/
def bc (p : bP) (low high c k e : Int) : Int := bx p low high c k e (bv p e high c) (bv p low (e - 1) (c - un k))
theorem bv_known (p : bP) {low high : Int} (c : Int) (h : high ≤ low) : bv p low high c = 0 := by rw [bv, if_pos h]
theorem bv_eq (p : bP) {low high : Int} (c : Int) (h : low < high) : bv p low high c = gmn (bc p low high c 2) (low + 1) (gmn (bc p low high c 1) (low + 1) (gmn (bc p low high c 0) (low + 1) 1000000000000 (high - low).toNat) (high - low).toNat) (high - low).toNat := by
  rw [bv, if_neg (by omega)]
  have h2 : ∀ init, gmn (fun e => if h : low < e ∧ e ≤ high then bx p low high c 2 e (bv p e high c) (bv p low (e - 1) (c - 25)) else 1000000000000) (low + 1) init (high - low).toNat = gmn (bc p low high c 2) (low + 1) init (high - low).toNat := fun init => gmn_congr _ (fun k hk => by show (if h : _ then _ else _) = _; rw [dif_pos (by omega)]; rfl)
  have h1 : ∀ init, gmn (fun e => if h : low < e ∧ e ≤ high then bx p low high c 1 e (bv p e high c) (bv p low (e - 1) (c - 5)) else 1000000000000) (low + 1) init (high - low).toNat = gmn (bc p low high c 1) (low + 1) init (high - low).toNat := fun init => gmn_congr _ (fun k hk => by show (if h : _ then _ else _) = _; rw [dif_pos (by omega)]; rfl)
  have h0 : ∀ init, gmn (fun e => if h : low < e ∧ e ≤ high then bx p low high c 0 e (bv p e high c) (bv p low (e - 1) (c - 1)) else 1000000000000) (low + 1) init (high - low).toNat = gmn (bc p low high c 0) (low + 1) init (high - low).toNat := fun init => gmn_congr _ (fun k hk => by show (if h : _ then _ else _) = _; rw [dif_pos (by omega)]; rfl)
  rw [h2, h1, h0]
def isK (k : Int) : Prop := k = 0 ∨ k = 1 ∨ k = 2
theorem le_bv {p : bP} {low high c v : Int} (h : low < high) (h0 : v ≤ 1000000000000) (hk : ∀ k e : Int, isK k → low < e → e ≤ high → v ≤ bc p low high c k e) : v ≤ bv p low high c := by
  rw [bv_eq p c h]
  refine le_gmn _ (le_gmn _ (le_gmn _ h0 (fun j hj => ?_)) (fun j hj => ?_)) (fun j hj => ?_)
  · exact hk 0 _ (Or.inl rfl) (by omega) (by omega)
  · exact hk 1 _ (Or.inr (Or.inl rfl)) (by omega) (by omega)
  · exact hk 2 _ (Or.inr (Or.inr rfl)) (by omega) (by omega)
theorem bv_le {p : bP} {low high c k e : Int} (hk : isK k) (h1 : low < e) (h2 : e ≤ high) : bv p low high c ≤ bc p low high c k e := by
  rw [bv_eq p c (by omega)]
  have n0 := gmn_le (bc p low high c 0) (low + 1) 1000000000000 (high - low).toNat (e - low - 1).toNat (by omega)
  have n1 := gmn_le (bc p low high c 1) (low + 1) (gmn (bc p low high c 0) (low + 1) 1000000000000 (high - low).toNat) (high - low).toNat (e - low - 1).toNat (by omega)
  have n2 := gmn_le (bc p low high c 2) (low + 1) (gmn (bc p low high c 1) (low + 1) (gmn (bc p low high c 0) (low + 1) 1000000000000 (high - low).toNat) (high - low).toNat) (high - low).toNat (e - low - 1).toNat (by omega)
  have i1 := gmn_init (bc p low high c 1) (low + 1) (gmn (bc p low high c 0) (low + 1) 1000000000000 (high - low).toNat) (high - low).toNat
  have i2 := gmn_init (bc p low high c 2) (low + 1) (gmn (bc p low high c 1) (low + 1) (gmn (bc p low high c 0) (low + 1) 1000000000000 (high - low).toNat) (high - low).toNat) (high - low).toNat
  rw [show low + 1 + ((e - low - 1).toNat : Int) = e by omega] at n0 n1 n2
  rcases hk with rfl | rfl | rfl <;> omega
theorem bv_mem {p : bP} {low high c : Int} (h : low < high) : bv p low high c = 1000000000000 ∨ ∃ k e : Int, isK k ∧ low < e ∧ e ≤ high ∧ bv p low high c = bc p low high c k e := by
  rw [bv_eq p c h]
  rcases gmn_mem (bc p low high c 2) (low + 1) (gmn (bc p low high c 1) (low + 1) (gmn (bc p low high c 0) (low + 1) 1000000000000 (high - low).toNat) (high - low).toNat) (high - low).toNat with e | ⟨j, hj, e⟩
  · rw [e]
    rcases gmn_mem (bc p low high c 1) (low + 1) (gmn (bc p low high c 0) (low + 1) 1000000000000 (high - low).toNat) (high - low).toNat with e | ⟨j, hj, e⟩
    · rw [e]
      rcases gmn_mem (bc p low high c 0) (low + 1) 1000000000000 (high - low).toNat with e | ⟨j, hj, e⟩
      · exact Or.inl e
      · exact Or.inr ⟨0, _, Or.inl rfl, by omega, by omega, e⟩
    · exact Or.inr ⟨1, _, Or.inr (Or.inl rfl), by omega, by omega, e⟩
  · exact Or.inr ⟨2, _, Or.inr (Or.inr rfl), by omega, by omega, e⟩
theorem bv_cap {p : bP} {low high c : Int} (h : low < high) : bv p low high c ≤ 1000000000000 := by
  rw [bv_eq p c h]
  have i0 := gmn_init (bc p low high c 0) (low + 1) 1000000000000 (high - low).toNat
  have i1 := gmn_init (bc p low high c 1) (low + 1) (gmn (bc p low high c 0) (low + 1) 1000000000000 (high - low).toNat) (high - low).toNat
  have i2 := gmn_init (bc p low high c 2) (low + 1) (gmn (bc p low high c 1) (low + 1) (gmn (bc p low high c 0) (low + 1) 1000000000000 (high - low).toNat) (high - low).toNat) (high - low).toNat
  omega
/-- numbers as a stair has them -/
def okP (p : bP) : Prop := (1 ≤ bTop p ∧ bTop p ≤ 40) ∧ (0 ≤ bFc p ∧ bFc p ≤ 99) ∧ (0 ≤ bCc p ∧ bCc p ≤ 9) ∧ (∀ k : Int, isK k → (-9 ≤ bD p k ∧ bD p k ≤ 9) ∧ (0 ≤ bPr p k ∧ bPr p k ≤ 99)) ∧ ∀ a b : Int, 0 ≤ a → a ≤ b → b ≤ 41 → 0 ≤ bW p b - bW p a ∧ bW p b - bW p a ≤ 4059
theorem mul_in {x y X Y : Int} (hx : 0 ≤ x ∧ x ≤ X) (hy : 0 ≤ y ∧ y ≤ Y) : 0 ≤ x * y ∧ x * y ≤ X * Y :=
  ⟨Int.mul_nonneg hx.1 hy.1, Int.mul_le_mul hx.2 hy.2 hy.1 (by omega)⟩
theorem cost_in {p : bP} (h : okP p) {s : Int} (hs : 1 ≤ s ∧ s ≤ bTop p) : 0 ≤ bFc p + bCc p * s ∧ bFc p + bCc p * s ≤ 459 := by
  obtain ⟨h1, h2, h3, h4, h5⟩ := h
  have := mul_in (x := bCc p) (X := 9) (y := s) (Y := 40) h3 (by omega)
  omega
theorem bx_in {p : bP} (h : okP p) {low high c k e wh br : Int} (hk : isK k) (hl : 0 ≤ low) (hh : high ≤ 40) (he : low < e ∧ e ≤ high) (hw : 0 ≤ wh) (hb : 0 ≤ br) : (0 ≤ bx p low high c k e wh br) ∧ (bx p low high c k e wh br = 1000000000000 ∨ (wh < 1000000000000 ∧ br < 1000000000000 ∧ bx p low high c k e wh br ≤ wh + br + 2264922)) := by
  have h4 := h.2.2.2.1 k hk
  unfold bx
  by_cases cc : 0 < pcs c k ∧ (1 ≤ e + bD p k ∧ e + bD p k ≤ bTop p) ∧ wh < 1000000000000 ∧ br < 1000000000000
  · rw [if_pos cc]
    have hc := cost_in h cc.2.1
    by_cases cm : p.1 = true
    · rw [if_pos cm]
      have w1 := h.2.2.2.2 low (high + 1) hl (by omega) (by omega)
      have w2 := h.2.2.2.2 low e hl (by omega) (by omega)
      have m1 := mul_in (x := bFc p + bCc p * (e + bD p k)) (X := 459) (y := bW p (high + 1) - bW p low) (Y := 4059) hc w1
      have m2 := mul_in (x := bPr p k) (X := 99) (y := bW p e - bW p low) (Y := 4059) h4.2 w2
      refine ⟨by omega, Or.inr ⟨cc.2.2.1, cc.2.2.2, by omega⟩⟩
    · rw [if_neg cm]
      refine ⟨by omega, Or.inr ⟨cc.2.2.1, cc.2.2.2, by omega⟩⟩
  · rw [if_neg cc]
    exact ⟨by omega, Or.inl rfl⟩
theorem bv_in {p : bP} (h : okP p) : ∀ (len : Nat) (low high c : Int), (high - low).toNat = len → 0 ≤ low → low ≤ high → high ≤ 40 → 0 ≤ bv p low high c ∧ (bv p low high c = 1000000000000 ∨ bv p low high c ≤ 2264922 * (high - low)) := by
  intro len
  induction len using Nat.strongRecOn with
  | ind len ih =>
    intro low high c hlen h0 h1 h40
    by_cases cc : high ≤ low
    · rw [bv_known p c cc]; omega
    · have hcand : ∀ k e : Int, isK k → low < e → e ≤ high → 0 ≤ bc p low high c k e ∧ (bc p low high c k e = 1000000000000 ∨ bc p low high c k e ≤ 2264922 * (high - low)) := fun k e hk he1 he2 => by
        have a1 := ih (high - e).toNat (by omega) e high c rfl (by omega) he2 h40
        have a2 := ih (e - 1 - low).toNat (by omega) low (e - 1) (c - un k) rfl h0 (by omega) (by omega)
        have a3 := bx_in h (c := c) hk h0 h40 ⟨he1, he2⟩ a1.1 a2.1
        unfold bc
        refine ⟨a3.1, ?_⟩
        rcases a3.2 with g | ⟨g1, g2, g3⟩
        · exact Or.inl g
        · right; omega
      refine ⟨le_bv (by omega) (by omega) (fun k e hk e1 e2 => (hcand k e hk e1 e2).1), ?_⟩
      rcases bv_mem (p := p) (low := low) (high := high) (c := c) (by omega) with g | ⟨k, e, hk, e1, e2, g⟩
      · exact Or.inl g
      · rw [g]; exact (hcand k e hk e1 e2).2
/-- dearer parts, a dearer fall -/
theorem bx_mono {p : bP} (h : okP p) {low high high' c c' k e wh br wh' br' : Int} (hk : isK k) (hl : 0 ≤ low) (he : low < e ∧ e ≤ high) (hh : high ≤ high' ∧ high' ≤ 40) (hp : 0 < pcs c' k → 0 < pcs c k) (hw0 : 0 ≤ wh) (hb0 : 0 ≤ br) (hw : wh ≤ wh') (hb : br ≤ br') (hcap : bx p low high c k e wh br ≤ 1000000000000 ∨ wh < 1000000) : bx p low high c k e wh br ≤ bx p low high' c' k e wh' br' ∨ 1000000000000 ≤ bx p low high' c' k e wh' br' := by
  unfold bx at hcap ⊢
  by_cases cc : 0 < pcs c' k ∧ (1 ≤ e + bD p k ∧ e + bD p k ≤ bTop p) ∧ wh' < 1000000000000 ∧ br' < 1000000000000
  · rw [if_pos cc, if_pos ⟨hp cc.1, cc.2.1, by omega, by omega⟩]
    have hc := cost_in h cc.2.1
    by_cases cm : p.1 = true
    · rw [if_pos cm, if_pos cm]
      have w1 := h.2.2.2.2 (high + 1) (high' + 1) (by omega) (by omega) (by omega)
      have m1 : (bFc p + bCc p * (e + bD p k)) * (bW p (high + 1) - bW p low) ≤ (bFc p + bCc p * (e + bD p k)) * (bW p (high' + 1) - bW p low) := Int.mul_le_mul_of_nonneg_left (by omega) hc.1
      left; omega
    · rw [if_neg cm, if_neg cm]
      left; omega
  · rw [if_neg cc]
    right; omega
theorem pcs_un {c j k : Int} (hj : isK j) (hk : isK k) (hc : 0 ≤ c) (h : 0 < pcs c k) : (0 < pcs (c - un k) j → 0 < pcs c j) ∧ (j ≠ k → pcs (c - un j) k = pcs c k ∨ pcs c j ≤ 0) ∧ (0 < pcs (c - un k) j → 0 < pcs (c - un j) k) ∧ 0 ≤ c - un k := by
  unfold pcs at *
  unfold un at *
  rcases hj with rfl | rfl | rfl <;> rcases hk with rfl | rfl | rfl <;> simp at h ⊢ <;> omega
theorem bv_pieces {p : bP} (h : okP p) : ∀ (len : Nat) (low high c k : Int), (high - low).toNat = len → 0 ≤ low → low ≤ high → high ≤ 40 → 0 ≤ c → isK k → 0 < pcs c k → bv p low high c ≤ bv p low high (c - un k) := by
  intro len
  induction len using Nat.strongRecOn with
  | ind len ih =>
    intro low high c k hlen h0 h1 h40 hc hk hp
    by_cases cc : high ≤ low
    · rw [bv_known p _ cc, bv_known p _ cc]; omega
    · have hcap := bv_cap (p := p) (low := low) (high := high) (c := c) (by omega)
      refine le_bv (by omega) hcap (fun j e hj e1 e2 => ?_)
      have hle := bv_le (p := p) (c := c) hj e1 e2
      have hu := pcs_un hj hk hc hp
      have w0 := (bv_in h _ e high c rfl (by omega) e2 h40).1
      have b0 := (bv_in h _ low (e - 1) (c - un j) rfl h0 (by omega) (by omega)).1
      by_cases cj : 0 < pcs (c - un k) j
      · have hw := ih (high - e).toNat (by omega) e high c k rfl (by omega) e2 h40 hc hk hp
        have hq := hu.2.2.1 cj
        have hcj : 0 ≤ c - un j := (pcs_un hk hj hc (hu.1 cj)).2.2.2
        have hb := ih (e - 1 - low).toNat (by omega) low (e - 1) (c - un j) k rfl h0 (by omega) (by omega) hcj hk hq
        have ecomm : c - un j - un k = c - un k - un j := by omega
        rw [ecomm] at hb
        have hm := bx_mono h (low := low) (high := high) (high' := high) (c := c) (c' := c - un k) (k := j) (e := e) hj h0 ⟨e1, e2⟩ ⟨Int.le_refl _, h40⟩ hu.1 w0 b0 hw hb (Or.inl (by
          have := bx_in h (low := low) (high := high) (c := c) (k := j) (e := e) hj h0 h40 ⟨e1, e2⟩ w0 b0
          by_cases c9 : bx p low high c j e (bv p e high c) (bv p low (e - 1) (c - un j)) ≤ 1000000000000
          · exact c9
          · exfalso
            have q1 := bv_in h _ e high c rfl (by omega) e2 h40
            have q2 := bv_in h _ low (e - 1) (c - un j) rfl h0 (by omega) (by omega)
            rcases this.2 with g | ⟨g1, g2, g3⟩
            · omega
            · omega))
        unfold bc at hle ⊢
        omega
      · have : bc p low high (c - un k) j e = 1000000000000 := by unfold bc bx; rw [if_neg (fun hh => cj hh.1)]
        omega
theorem bv_span {p : bP} (h : okP p) : ∀ (len : Nat) (low high c : Int), (high - low).toNat = len → 0 ≤ low → low ≤ high → high + 1 ≤ 40 → 0 ≤ c → bv p low high c ≤ bv p low (high + 1) c := by
  intro len
  induction len using Nat.strongRecOn with
  | ind len ih =>
    intro low high c hlen h0 h1 h40 hc
    by_cases cc : high ≤ low
    · rw [bv_known p _ cc]
      exact (bv_in h _ low (high + 1) c rfl h0 (by omega) (by omega)).1
    · have hcap := bv_cap (p := p) (low := low) (high := high) (c := c) (by omega)
      have hin := bv_in h _ low high c rfl h0 h1 (by omega)
      refine le_bv (by omega) hcap (fun j e hj e1 e2 => ?_)
      by_cases ee : e = high + 1
      · subst ee
        unfold bc bx
        by_cases c9 : 0 < pcs c j ∧ (1 ≤ high + 1 + bD p j ∧ high + 1 + bD p j ≤ bTop p) ∧ bv p (high + 1) (high + 1) c < 1000000000000 ∧ bv p low (high + 1 - 1) (c - un j) < 1000000000000
        · rw [if_pos c9, bv_known p (low := high + 1) c (Int.le_refl _), show high + 1 - 1 = high by omega]
          have hp := bv_pieces h _ low high c j rfl h0 h1 (by omega) hc hj c9.1
          have hco := cost_in h c9.2.1
          have h4 := h.2.2.2.1 j hj
          by_cases cm : p.1 = true
          · rw [if_pos cm]
            have w1 := h.2.2.2.2 low (high + 1 + 1) h0 (by omega) (by omega)
            have w2 := h.2.2.2.2 low (high + 1) h0 (by omega) (by omega)
            have m1 := mul_in (x := bFc p + bCc p * (high + 1 + bD p j)) (X := 459) (y := bW p (high + 1 + 1) - bW p low) (Y := 4059) hco w1
            have m2 := mul_in (x := bPr p j) (X := 99) (y := bW p (high + 1) - bW p low) (Y := 4059) h4.2 w2
            omega
          · rw [if_neg cm]
            omega
        · rw [if_neg c9]; exact hcap
      · have hle := bv_le (p := p) (c := c) hj e1 (show e ≤ high by omega)
        have w0 := (bv_in h _ e high c rfl (by omega) (by omega) (by omega)).1
        have b0 := (bv_in h _ low (e - 1) (c - un j) rfl h0 (by omega) (by omega)).1
        have hw := ih (high - e).toNat (by omega) e high c rfl (by omega) (by omega) h40 hc
        have hm := bx_mono h (low := low) (high := high) (high' := high + 1) (c := c) (c' := c) (k := j) (e := e) (br := bv p low (e - 1) (c - un j)) (br' := bv p low (e - 1) (c - un j)) hj h0 ⟨e1, by omega⟩ ⟨by omega, h40⟩ (fun x => x) w0 b0 hw (Int.le_refl _) (Or.inl (by
          have := bx_in h (low := low) (high := high) (c := c) (k := j) (e := e) hj h0 (by omega) ⟨e1, by omega⟩ w0 b0
          by_cases c9 : bx p low high c j e (bv p e high c) (bv p low (e - 1) (c - un j)) ≤ 1000000000000
          · exact c9
          · exfalso
            have q1 := bv_in h _ e high c rfl (by omega) (by omega) (by omega)
            have q2 := bv_in h _ low (e - 1) (c - un j) rfl h0 (by omega) (by omega)
            rcases this.2 with g | ⟨g1, g2, g3⟩
            · omega
            · omega))
        unfold bc at hle ⊢
        omega
theorem bv_span' {p : bP} (h : okP p) (low high high' c : Int) (h0 : 0 ≤ low) (h1 : low ≤ high) (h2 : high ≤ high') (h40 : high' ≤ 40) (hc : 0 ≤ c) : bv p low high c ≤ bv p low high' c := by
  obtain ⟨k, hk⟩ : ∃ k : Nat, high' = high + k := ⟨(high' - high).toNat, by omega⟩
  subst hk
  clear h2
  induction k with
  | zero => rw [show high + ((0 : Nat) : Int) = high by omega]; exact Int.le_refl _
  | succ k ih =>
    have h3 := ih (by omega)
    have h4 := bv_span h _ low (high + k) c rfl h0 (by omega) (by omega) hc
    rw [show high + ((k + 1 : Nat) : Int) = high + k + 1 by omega]
    omega
