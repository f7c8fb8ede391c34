/-! EDGE: the first fall and where it stays -/
/-- it is the first of the best -/
def Fst (p : bP) (low high c k e : Int) : Prop := isK k ∧ low < e ∧ e ≤ high ∧ bc p low high c k e = bv p low high c ∧ bv p low high c < 1000000000000 ∧ ∀ k' e' : Int, isK k' → low < e' → e' ≤ high → (k' < k ∨ (k' = k ∧ e' < e)) → bv p low high c < bc p low high c k' e'
theorem Fst_one {p : bP} {low high c k e k' e' : Int} (h : Fst p low high c k e) (h' : Fst p low high c k' e') : k = k' ∧ e = e' := by
  obtain ⟨a1, a2, a3, a4, a5, a6⟩ := h
  obtain ⟨b1, b2, b3, b4, b5, b6⟩ := h'
  have c1 : ¬ (k' < k ∨ (k' = k ∧ e' < e)) := fun hh => by have := a6 k' e' b1 b2 b3 hh; omega
  have c2 : ¬ (k < k' ∨ (k = k' ∧ e < e')) := fun hh => by have := b6 k e a1 a2 a3 hh; omega
  omega
theorem af_first (c : Int → Int) (k dk lo : Int) (st : Int × Int × Int) : ∀ n : Nat, (af c k dk lo st n = st ∧ ∀ i : Nat, i < n → st.1 ≤ c (lo + i)) ∨ ∃ j : Nat, j < n ∧ af c k dk lo st n = (c (lo + j), k, lo + j + dk) ∧ c (lo + j) < st.1 ∧ (∀ i : Nat, i < j → c (lo + j) < c (lo + i)) ∧ ∀ i : Nat, i < n → c (lo + j) ≤ c (lo + i) := by
  intro n
  induction n with
  | zero => exact Or.inl ⟨rfl, fun i hi => by omega⟩
  | succ n ih =>
    have e : af c k dk lo st (n + 1) = if c (lo + n) < (af c k dk lo st n).1 then (c (lo + n), k, lo + n + dk) else af c k dk lo st n := rfl
    rw [e]
    by_cases h : c (lo + n) < (af c k dk lo st n).1
    · rw [if_pos h]
      right
      rcases ih with ⟨g1, g2⟩ | ⟨j, g0, g1, g2, g3, g4⟩
      · rw [g1] at h
        refine ⟨n, by omega, rfl, h, fun i hi => by have := g2 i hi; omega, fun i hi => ?_⟩
        by_cases e : i = n
        · rw [e]; omega
        · have := g2 i (by omega); omega
      · rw [g1] at h
        replace h : c (lo + n) < c (lo + j) := h
        refine ⟨n, by omega, rfl, by omega, fun i hi => by have := g4 i hi; omega, fun i hi => ?_⟩
        by_cases e : i = n
        · rw [e]; omega
        · have := g4 i (by omega); omega
    · rw [if_neg h]
      rcases ih with ⟨g1, g2⟩ | ⟨j, g0, g1, g2, g3, g4⟩
      · rw [g1] at h
        refine Or.inl ⟨g1, fun i hi => ?_⟩
        by_cases e : i = n
        · rw [e]; omega
        · exact g2 i (by omega)
      · rw [g1] at h
        replace h : ¬ c (lo + n) < c (lo + j) := h
        refine Or.inr ⟨j, by omega, g1, g2, g3, fun i hi => ?_⟩
        by_cases e : i = n
        · rw [e]; omega
        · exact g4 i (by omega)
theorem bfk_first {p : bP} {low high c : Int} (h : low < high) : ∀ n : Nat, n ≤ 3 → ((bfk p low high c n).1 = 1000000000000 ∧ ∀ k e : Int, 0 ≤ k → k < n → low < e → e ≤ high → 1000000000000 ≤ bc p low high c k e) ∨ ∃ k e : Int, (0 ≤ k ∧ k < n) ∧ low < e ∧ e ≤ high ∧ bfk p low high c n = (bc p low high c k e, k, e + bD p k) ∧ bc p low high c k e < 1000000000000 ∧ (∀ k' e' : Int, 0 ≤ k' → k' < n → low < e' → e' ≤ high → bc p low high c k e ≤ bc p low high c k' e') ∧ ∀ k' e' : Int, 0 ≤ k' → low < e' → e' ≤ high → (k' < k ∨ (k' = k ∧ e' < e)) → bc p low high c k e < bc p low high c k' e' := by
  intro n
  induction n with
  | zero =>
    intro _
    left
    refine ⟨?_, fun k e k1 k2 => by omega⟩
    show (if low = high then (0 : Int) else 1000000000000) = _
    rw [if_neg (by omega)]
  | succ n ih =>
    intro hn
    have esucc : bfk p low high c (n + 1) = af (bc p low high c n) n (bD p n) (low + 1) (bfk p low high c n) (high - low).toNat := rfl
    have hi := ih (by omega)
    have hin : ∀ e' : Int, low < e' → e' ≤ high → ∃ i : Nat, i < (high - low).toNat ∧ low + 1 + (i : Int) = e' := fun e' a b => ⟨(e' - low - 1).toNat, by omega, by omega⟩
    rcases af_first (bc p low high c n) n (bD p n) (low + 1) (bfk p low high c n) (high - low).toNat with ⟨g1, g2⟩ | ⟨j, g0, g1, g2, g3, g4⟩
    · rw [esucc, g1]
      rcases hi with ⟨q1, q2⟩ | ⟨k, e, q0, q1, q2, q3, q4, q5, q6⟩
      · refine Or.inl ⟨q1, fun k e k1 k2 e1 e2 => ?_⟩
        by_cases ek : k = n
        · obtain ⟨i, i1, i2⟩ := hin e e1 e2
          have := g2 i i1
          rw [i2, q1] at this
          rw [ek]; exact this
        · exact q2 k e k1 (by omega) e1 e2
      · refine Or.inr ⟨k, e, by omega, q1, q2, q3, q4, fun k' e' k1 k2 e1 e2 => ?_, q6⟩
        by_cases ek : k' = n
        · obtain ⟨i, i1, i2⟩ := hin e' e1 e2
          have := g2 i i1
          rw [i2, q3] at this
          rw [ek]; exact this
        · exact q5 k' e' k1 (by omega) e1 e2
    · right
      refine ⟨n, low + 1 + j, by omega, by omega, by omega, by rw [esucc, g1], ?_, fun k' e' k1 k2 e1 e2 => ?_, fun k' e' k1 e1 e2 hh => ?_⟩
      · have := bfk_cap p low high c n; omega
      · by_cases ek : k' = n
        · obtain ⟨i, i1, i2⟩ := hin e' e1 e2
          have := g4 i i1
          rw [i2] at this
          rw [ek]; exact this
        · rcases hi with ⟨q1, q2⟩ | ⟨k, e, q0, q1, q2, q3, q4, q5, q6⟩
          · have := q2 k' e' k1 (by omega) e1 e2
            omega
          · have := q5 k' e' k1 (by omega) e1 e2
            rw [q3] at g2
            replace g2 : bc p low high c n (low + 1 + j) < bc p low high c k e := g2
            omega
      · rcases hh with hh | ⟨hh1, hh2⟩
        · rcases hi with ⟨q1, q2⟩ | ⟨k, e, q0, q1, q2, q3, q4, q5, q6⟩
          · have := q2 k' e' k1 (by omega) e1 e2
            omega
          · have := q5 k' e' k1 (by omega) e1 e2
            rw [q3] at g2
            replace g2 : bc p low high c n (low + 1 + j) < bc p low high c k e := g2
            omega
        · obtain ⟨i, i1, i2⟩ := hin e' e1 e2
          have := g3 i (by omega)
          rw [i2] at this
          rw [hh1]; exact this
theorem bf_first {p : bP} {low high c : Int} (h : low < high) (hf : bv p low high c < 1000000000000) : ∃ k e : Int, Fst p low high c k e ∧ (bf p low high c).2 = (k, e + bD p k) := by
  have e1 := bf_fst p (low := low) (high := high) c (by omega)
  rcases bfk_first (p := p) (c := c) h 3 (Nat.le_refl _) with ⟨q1, q2⟩ | ⟨k, e, q0, q1, q2, q3, q4, q5, q6⟩
  · unfold bf at e1
    omega
  · have e2 : bc p low high c k e = bv p low high c := by
      rw [← e1]
      unfold bf
      rw [q3]
    refine ⟨k, e, ⟨isK_of (by omega), q1, q2, e2, hf, fun k' e' hk' a b hh => ?_⟩, ?_⟩
    · have := q6 k' e' (isK_in hk').1 a b hh
      omega
    · unfold bf
      rw [q3]
theorem bf_iff {p : bP} {low high c k e : Int} (h : low < high) (hk : isK k) (he : low < e ∧ e ≤ high) (hf : bv p low high c < 1000000000000) : (bf p low high c).2 = (k, e + bD p k) ↔ Fst p low high c k e := by
  obtain ⟨k', e', h1, h2⟩ := bf_first h hf
  constructor
  · intro hh
    rw [h2] at hh
    have a1 : k' = k := congrArg Prod.fst hh
    have a2 : e' + bD p k' = e + bD p k := congrArg Prod.snd hh
    subst a1
    have : e' = e := by omega
    subst this
    exact h1
  · intro hh
    obtain ⟨a1, a2⟩ := Fst_one h1 hh
    rw [h2, a1, a2]
/-- the first fall stays between two prices that cost the same -/
theorem stay_same {p : bP} (hok : okP p) {k low high c k0 e0 a b q : Int} (hl : 0 ≤ low) (h40 : high ≤ 40) (ha : 0 ≤ a) (hb : b ≤ 99) (haq : a ≤ q) (hqb : q ≤ b) (fa : Fst (pw p k a) low high c k0 e0) (fb : Fst (pw p k b) low high c k0 e0) (he : bv (pw p k a) low high c = bv (pw p k b) low high c) : Fst (pw p k q) low high c k0 e0 := by
  obtain ⟨a1, a2, a3, a4, a5, a6⟩ := fa
  obtain ⟨b1, b2, b3, b4, b5, b6⟩ := fb
  have v1 := bv_price hok (k := k) ha haq (by omega) _ low high c rfl hl (by omega) h40
  have v2 := bv_price hok (k := k) (by omega) hqb hb _ low high c rfl hl (by omega) h40
  have c1 := bc_price hok (k := k) (c := c) ha haq (by omega) a1 hl h40 a2 a3
  have c2 := bc_price hok (k := k) (c := c) (by omega) hqb hb a1 hl h40 a2 a3
  refine ⟨a1, a2, a3, by omega, by omega, fun k' e' hk' x y hh => ?_⟩
  have g1 := bc_price hok (k := k) (c := c) ha haq (by omega) hk' hl h40 x y
  have g2 := a6 k' e' hk' x y hh
  omega
theorem stay_line {p : bP} (hok : okP p) (hm : p.1 = true) {k low high c k0 e0 a m b q : Int} (hl : 0 ≤ low) (h40 : high ≤ 40) (ha : 0 ≤ a) (hb : b ≤ 99) (ham : a < m) (hmb : m < b) (haq : a ≤ q) (hqb : q ≤ b) (fa : Fst (pw p k a) low high c k0 e0) (fm : Fst (pw p k m) low high c k0 e0) (fb : Fst (pw p k b) low high c k0 e0) (he : (bv (pw p k m) low high c - bv (pw p k a) low high c) * (b - m) = (bv (pw p k b) low high c - bv (pw p k m) low high c) * (m - a)) : Fst (pw p k q) low high c k0 e0 := by
  obtain ⟨a1, a2, a3, a4, a5, a6⟩ := fa
  obtain ⟨b1, b2, b3, b4, b5, b6⟩ := fb
  obtain ⟨m1, m2, m3, m4, m5, m6⟩ := fm
  have bV : bend (fun x => bv (pw p k x) low high c) a b := fun i i1 i2 => bv_bend hok hm (k := k) (q := i) (by omega) _ low high c rfl hl (by omega) h40
  have bC : ∀ k' e' : Int, isK k' → low < e' → e' ≤ high → bend (fun x => bc (pw p k x) low high c k' e') a b := fun k' e' hk' x y i i1 i2 => bc_bend hok hm (k := k) (q := i) (by omega) hk' hl h40 x y
  obtain ⟨s, hs⟩ := bend_line bV ham hmb he
  obtain ⟨s', hs'⟩ := bend_line (bC k0 e0 a1 a2 a3) ham hmb (by
    show (bc (pw p k m) low high c k0 e0 - bc (pw p k a) low high c k0 e0) * (b - m) = (bc (pw p k b) low high c k0 e0 - bc (pw p k m) low high c k0 e0) * (m - a)
    rw [m4, a4, b4]; exact he)
  replace hs : ∀ q : Int, a ≤ q → q ≤ b → bv (pw p k q) low high c = bv (pw p k a) low high c + (q - a) * s := hs
  replace hs' : ∀ q : Int, a ≤ q → q ≤ b → bc (pw p k q) low high c k0 e0 = bc (pw p k a) low high c k0 e0 + (q - a) * s' := hs'
  have ess : s = s' := by
    have h1 := hs b (by omega) (by omega)
    have h2 := hs' b (by omega) (by omega)
    have h3 : (b - a) * s = (b - a) * s' := by omega
    exact Int.eq_of_mul_eq_mul_left (by omega) h3
  subst ess
  have hq := hs q haq hqb
  have hq' := hs' q haq hqb
  have hfin := bv_fin hok (k := k) (q := a) (q' := q) (by omega) (by omega) _ low high c rfl hl (by omega) h40 a5
  refine ⟨a1, a2, a3, by omega, hfin, fun k' e' hk' x y hh => ?_⟩
  have bG : bend (fun x => bc (pw p k x) low high c k' e' - ((x - a) * s + bv (pw p k a) low high c)) a b := fun i i1 i2 => by
    have h1 := bC k' e' hk' x y i i1 i2
    replace h1 : bc (pw p k i) low high c k' e' + bc (pw p k (i + 2)) low high c k' e' ≤ 2 * bc (pw p k (i + 1)) low high c k' e' := h1
    show bc (pw p k i) low high c k' e' - ((i - a) * s + bv (pw p k a) low high c) + (bc (pw p k (i + 2)) low high c k' e' - ((i + 2 - a) * s + bv (pw p k a) low high c)) ≤ 2 * (bc (pw p k (i + 1)) low high c k' e' - ((i + 1 - a) * s + bv (pw p k a) low high c))
    have h2 : (i + 2 - a) * s = (i - a) * s + 2 * s := by rw [← Int.add_mul]; congr 1; omega
    have h3 : (i + 1 - a) * s = (i - a) * s + s := by
      rw [show (i - a) * s + s = (i - a) * s + 1 * s by rw [Int.one_mul], ← Int.add_mul]
      congr 1
      omega
    omega
  have g1 := a6 k' e' hk' x y hh
  have g2 := b6 k' e' hk' x y hh
  have hbb := hs b (by omega) (by omega)
  have := bend_least bG (c := 1) (q := q) (by show 1 ≤ bc (pw p k a) low high c k' e' - ((a - a) * s + bv (pw p k a) low high c); rw [Int.sub_self, Int.zero_mul]; omega) (by show 1 ≤ bc (pw p k b) low high c k' e' - ((b - a) * s + bv (pw p k a) low high c); omega) haq hqb
  replace this : 1 ≤ bc (pw p k q) low high c k' e' - ((q - a) * s + bv (pw p k a) low high c) := this
  omega
/-- without a piece of the kind its price is nothing -/
theorem bv_none {p : bP} {k : Int} (hk : isK k) (q : Int) : ∀ (len : Nat) (low high c : Int), (high - low).toNat = len → 0 ≤ c → pcs c k = 0 → bv (pw p k q) low high c = bv p low high c ∧ (∀ j e : Int, isK j → low < e → e ≤ high → bc (pw p k q) low high c j e = bc p low high c j e) := by
  intro len
  induction len using Nat.strongRecOn with
  | ind len ih =>
    intro low high c hlen hc hp
    have hcand : ∀ j e : Int, isK j → low < e → e ≤ high → bc (pw p k q) low high c j e = bc p low high c j e := fun j e hj e1 e2 => by
      unfold bc
      by_cases hpj : 0 < pcs c j
      · have hjk : j ≠ k := fun e => by rw [e] at hpj; omega
        have hu := pcs_un hj hj hc hpj
        have hpc : pcs (c - un j) k = 0 := by
          unfold pcs un at *
          rcases hj with rfl | rfl | rfl <;> rcases hk with rfl | rfl | rfl <;> simp at hpj hp hjk ⊢ <;> omega
        have w := (ih (high - e).toNat (by omega) e high c rfl hc hp).1
        have b := (ih (e - 1 - low).toNat (by omega) low (e - 1) (c - un j) rfl hu.2.2.2 hpc).1
        rw [w, b]
        unfold bx
        have epr : bPr (pw p k q) j = bPr p j := by rw [pw_pr, if_neg hjk]
        rw [epr]
        rfl
      · unfold bx
        rw [if_neg (fun hh => hpj hh.1), if_neg (fun hh => hpj hh.1)]
    refine ⟨?_, hcand⟩
    by_cases cc : high ≤ low
    · rw [bv_known _ _ cc, bv_known _ _ cc]
    · rw [bv_eq _ _ (by omega), bv_eq _ _ (by omega)]
      have h0 : ∀ init, gmn (bc (pw p k q) low high c 0) (low + 1) init (high - low).toNat = gmn (bc p low high c 0) (low + 1) init (high - low).toNat := fun init => gmn_congr _ (fun i hi => hcand 0 _ (Or.inl rfl) (by omega) (by omega))
      have h1 : ∀ init, gmn (bc (pw p k q) low high c 1) (low + 1) init (high - low).toNat = gmn (bc p low high c 1) (low + 1) init (high - low).toNat := fun init => gmn_congr _ (fun i hi => hcand 1 _ (Or.inr (Or.inl rfl)) (by omega) (by omega))
      have h2 : ∀ init, gmn (bc (pw p k q) low high c 2) (low + 1) init (high - low).toNat = gmn (bc p low high c 2) (low + 1) init (high - low).toNat := fun init => gmn_congr _ (fun i hi => hcand 2 _ (Or.inr (Or.inr rfl)) (by omega) (by omega))
      rw [h0, h1, h2]
theorem af_congr {c c' : Int → Int} {k dk lo : Int} {st : Int × Int × Int} : ∀ n : Nat, (∀ i : Nat, i < n → c (lo + i) = c' (lo + i)) → af c k dk lo st n = af c' k dk lo st n := by
  intro n
  induction n with
  | zero => intro _; rfl
  | succ n ih =>
    intro h
    show (if c (lo + n) < (af c k dk lo st n).1 then (c (lo + n), k, lo + n + dk) else af c k dk lo st n) = (if c' (lo + n) < (af c' k dk lo st n).1 then (c' (lo + n), k, lo + n + dk) else af c' k dk lo st n)
    rw [ih (fun i hi => h i (by omega)), h n (by omega)]
theorem bf_none {p : bP} {k : Int} (hk : isK k) (q : Int) {low high c : Int} (hc : 0 ≤ c) (hp : pcs c k = 0) : bf (pw p k q) low high c = bf p low high c := by
  have hcand := (bv_none (p := p) hk q _ low high c rfl hc hp).2
  have : ∀ n : Nat, n ≤ 3 → bfk (pw p k q) low high c n = bfk p low high c n := by
    intro n
    induction n with
    | zero => intro _; rfl
    | succ n ih =>
      intro hn
      show af (bc (pw p k q) low high c n) n (bD (pw p k q) n) (low + 1) (bfk (pw p k q) low high c n) (high - low).toNat = af (bc p low high c n) n (bD p n) (low + 1) (bfk p low high c n) (high - low).toNat
      rw [ih (by omega)]
      exact af_congr _ (fun i hi => hcand n _ (isK_of (by omega)) (by omega) (by omega))
  exact this 3 (Nat.le_refl _)
/-- the edge: the least dearer price with another first fall -/
def edR (p : bP) (k top c r : Int) : Prop := (bPr p k < r ∧ r ≤ 99 ∧ (bf (pw p k r) 0 top c).2 ≠ (bf p 0 top c).2 ∧ ∀ q : Int, bPr p k < q → q < r → (bf (pw p k q) 0 top c).2 = (bf p 0 top c).2) ∨ (r = 100 ∧ ∀ q : Int, bPr p k < q → q ≤ 99 → (bf (pw p k q) 0 top c).2 = (bf p 0 top c).2)
theorem edR_one {p : bP} {k top c r r' : Int} (h : edR p k top c r) (h' : edR p k top c r') : r = r' := by
  rcases h with ⟨a1, a2, a3, a4⟩ | ⟨a1, a2⟩ <;> rcases h' with ⟨b1, b2, b3, b4⟩ | ⟨b1, b2⟩
  · have c1 : ¬ r < r' := fun hh => a3 (b4 r a1 hh)
    have c2 : ¬ r' < r := fun hh => b3 (a4 r' b1 hh)
    omega
  · exact absurd (b2 r a1 a2) a3
  · exact absurd (a2 r' b1 b2) b3
  · omega
