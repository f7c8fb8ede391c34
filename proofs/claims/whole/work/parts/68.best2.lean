/-! BEST: the first fall -/
def af (c : Int → Int) (k dk lo : Int) (st : Int × Int × Int) : Nat → Int × Int × Int
  | 0 => st
  | n + 1 => if c (lo + n) < (af c k dk lo st n).1 then (c (lo + n), k, lo + n + dk) else af c k dk lo st n
theorem af_fst (c : Int → Int) (k dk lo : Int) (st : Int × Int × Int) : ∀ n, (af c k dk lo st n).1 = gmn c lo st.1 n := by
  intro n
  induction n with
  | zero => rfl
  | succ n ih =>
    show (if c (lo + n) < (af c k dk lo st n).1 then (c (lo + n), k, lo + n + dk) else af c k dk lo st n).1 = min (gmn c lo st.1 n) (c (lo + n))
    by_cases h : c (lo + n) < (af c k dk lo st n).1
    · rw [if_pos h]; show c (lo + n) = _; omega
    · rw [if_neg h]; omega
theorem af_stay {c : Int → Int} {k dk lo : Int} {st : Int × Int × Int} {a : Nat} : ∀ b : Nat, a ≤ b → (∀ j : Nat, a ≤ j → j < b → (af c k dk lo st a).1 ≤ c (lo + j)) → af c k dk lo st b = af c k dk lo st a := by
  intro b
  induction b with
  | zero => intro h _; rw [show a = 0 by omega]
  | succ b ih =>
    intro h hk
    by_cases e : a = b + 1
    · rw [e]
    · have h1 := ih (by omega) (fun j x y => hk j x (by omega))
      have h2 := hk b (by omega) (by omega)
      show (if c (lo + b) < (af c k dk lo st b).1 then (c (lo + b), k, lo + b + dk) else af c k dk lo st b) = _
      rw [h1, if_neg (by omega)]
/-- the best after so many kinds -/
def bfk (p : bP) (low high c : Int) : Nat → Int × Int × Int
  | 0 => (if low = high then 0 else 1000000000000, -1, -1)
  | j + 1 => af (bc p low high c j) j (bD p j) (low + 1) (bfk p low high c j) (high - low).toNat
def bf (p : bP) (low high c : Int) : Int × Int × Int := bfk p low high c 3
theorem bf_fst (p : bP) {low high : Int} (c : Int) (h : low ≤ high) : (bf p low high c).1 = bv p low high c := by
  by_cases e : low = high
  · subst e
    rw [bv_known p c (Int.le_refl _)]
    unfold bf
    show (af _ _ _ _ (af _ _ _ _ (af _ _ _ _ (bfk p low low c 0) (low - low).toNat) (low - low).toNat) (low - low).toNat).1 = 0
    rw [show (low - low).toNat = 0 by omega]
    show (if low = low then (0 : Int) else 1000000000000) = 0
    rw [if_pos rfl]
  · rw [bv_eq p c (by omega)]
    unfold bf
    show (af _ _ _ _ (af _ _ _ _ (af _ _ _ _ (bfk p low high c 0) (high - low).toNat) (high - low).toNat) (high - low).toNat).1 = _
    rw [af_fst, af_fst, af_fst]
    show gmn _ _ (gmn _ _ (gmn _ _ (if low = high then (0 : Int) else 1000000000000) _) _) _ = _
    rw [if_neg e]
    rfl
theorem bfk_cap (p : bP) (low high c : Int) : ∀ j, (bfk p low high c j).1 ≤ 1000000000000 := by
  intro j
  induction j with
  | zero => show (if low = high then (0 : Int) else 1000000000000) ≤ _; split <;> omega
  | succ j ih =>
    show (af _ _ _ _ (bfk p low high c j) _).1 ≤ _
    rw [af_fst]
    have := gmn_init (bc p low high c j) (low + 1) (bfk p low high c j).1 (high - low).toNat
    omega
theorem bc_nonneg {p : bP} (h : okP p) {low high c k e : Int} (hk : isK k) (h0 : 0 ≤ low) (h40 : high ≤ 40) (e1 : low < e) (e2 : e ≤ high) : 0 ≤ bc p low high c k e ∧ bc p low high c k e ≤ 1000000000000 := by
  have q1 := bv_in h _ e high c rfl (by omega) e2 h40
  have q2 := bv_in h _ low (e - 1) (c - un k) rfl h0 (by omega) (by omega)
  have := bx_in h (c := c) hk h0 h40 ⟨e1, e2⟩ q1.1 q2.1
  unfold bc
  refine ⟨this.1, ?_⟩
  rcases this.2 with g | ⟨g1, g2, g3⟩ <;> omega
/-! the reference -/
/-- the numbers of a law, as the reference has them -/
def pR (ν : gN) (law : Int) : bP := (decide (law = 1 ∨ law = 3), ν (-6903) 0, if law < 2 then 1 else ν (-6908) 0, if law < 2 then 0 else ν (-6909) 0, ν 71, if law < 2 then (fun _ => 0) else ν 73, fun t => gsum (ν 74) t.toNat)
/-- what is asked of the reference's numbers -/
def rOK (ν : gN) : Prop := (1 ≤ ν (-6903) 0 ∧ ν (-6903) 0 ≤ 40) ∧ (0 ≤ ν (-6908) 0 ∧ ν (-6908) 0 ≤ 99) ∧ (0 ≤ ν (-6909) 0 ∧ ν (-6909) 0 ≤ 9) ∧ (∀ k : Int, 0 ≤ k → k < 3 → (-9 ≤ ν 71 k ∧ ν 71 k ≤ 9) ∧ (0 ≤ ν 73 k ∧ ν 73 k ≤ 99)) ∧ ∀ t : Int, 0 ≤ t → t < 41 → 0 ≤ ν 74 t ∧ ν 74 t ≤ 99
theorem gsum_split {f : Int → Int} {a b : Nat} (h : a ≤ b) (hf : ∀ i : Nat, i < b → 0 ≤ f i ∧ f i ≤ 99) : 0 ≤ gsum f b - gsum f a ∧ gsum f b - gsum f a ≤ 99 * (b - a) := by
  induction b with
  | zero => rw [show a = 0 by omega]; omega
  | succ b ih =>
    by_cases e : a = b + 1
    · rw [e]; omega
    · have h1 := ih (by omega) (fun i hi => hf i (by omega))
      have h2 := hf b (by omega)
      show 0 ≤ gsum f b + f b - gsum f a ∧ gsum f b + f b - gsum f a ≤ 99 * (((b + 1 : Nat) : Int) - a)
      omega
theorem wOK {w : Int → Int} (h : ∀ t : Int, 0 ≤ t → t < 41 → 0 ≤ w t ∧ w t ≤ 99) : ∀ a b : Int, 0 ≤ a → a ≤ b → b ≤ 41 → 0 ≤ gsum w b.toNat - gsum w a.toNat ∧ gsum w b.toNat - gsum w a.toNat ≤ 4059 := fun a b h1 h2 h3 => by
  have := gsum_split (f := w) (a := a.toNat) (b := b.toNat) (by omega) (fun i hi => h i (by omega) (by omega))
  omega
theorem isK_in {k : Int} (h : isK k) : 0 ≤ k ∧ k < 3 := by rcases h with rfl | rfl | rfl <;> decide
theorem isK_of {k : Int} (h : 0 ≤ k ∧ k < 3) : isK k := by unfold isK; omega
theorem pR_ok {ν : gN} (h : rOK ν) (law : Int) : okP (pR ν law) := by
  obtain ⟨h1, h2, h3, h4, h5⟩ := h
  refine ⟨h1, ?_, ?_, fun k hk => ⟨(h4 k (isK_in hk).1 (isK_in hk).2).1, ?_⟩, fun a b => wOK h5 a b⟩
  · show 0 ≤ (if law < 2 then (1 : Int) else ν (-6908) 0) ∧ (if law < 2 then (1 : Int) else ν (-6908) 0) ≤ 99
    split <;> omega
  · show 0 ≤ (if law < 2 then (0 : Int) else ν (-6909) 0) ∧ (if law < 2 then (0 : Int) else ν (-6909) 0) ≤ 9
    split <;> omega
  · show 0 ≤ (if law < 2 then (fun _ => (0 : Int)) else ν 73) k ∧ (if law < 2 then (fun _ => (0 : Int)) else ν 73) k ≤ 99
    split
    · exact ⟨by show (0 : Int) ≤ 0; omega, by show (0 : Int) ≤ 99; omega⟩
    · exact (h4 k (isK_in hk).1 (isK_in hk).2).2
section
variable {T : gT} {ν : gN}
theorem un_val {k : Int} (h : isK k) : un k = 1 ∨ un k = 5 ∨ un k = 25 := by rcases h with rfl | rfl | rfl <;> decide
theorem pcs_in {c k : Int} : 0 ≤ pcs c k ∧ pcs c k ≤ 4 := by unfold pcs; omega
theorem d_X12_oneOf {k : Int} (h : isK k) : gd (g_X12_oneOf k) T ν (un k) := by
  unfold g_X12_oneOf
  rcases h with rfl | rfl | rfl
  · exact gd_cz (by decide) (fun h => absurd rfl h) (fun _ => gd_ret)
  · exact gd_cz (by decide) (fun _ => gd_cb (by decide) (fun h => absurd rfl h) (fun _ => gd_ret)) (fun h => absurd (by decide) h)
  · exact gd_cz (by decide) (fun _ => gd_cb (by decide) (fun _ => gd_ret) (fun h => absurd (by decide) h)) (fun h => absurd (by decide) h)
theorem d_X12_leftOf {c k : Int} (h : isK k) (hc : 0 ≤ c ∧ c < 125) : gd (g_X12_leftOf c k) T ν (pcs c k) := by
  unfold g_X12_leftOf pcs
  rcases h with rfl | rfl | rfl
  · refine gd_cz (by decide) (fun h => absurd rfl h) (fun _ => gd_rm ⟨⟨by omega, by omega⟩, ⟨by omega, by omega⟩, by omega⟩ ?_)
    rw [Int.tmod_eq_emod_of_nonneg hc.1, show c / un 0 = c by show c / 1 = c; omega]; exact gd_ret
  · refine gd_cz (by decide) (fun _ => gd_cb (by decide) (fun h => absurd rfl h) (fun _ => gd_dv ⟨⟨by omega, by omega⟩, ⟨by omega, by omega⟩, by omega⟩ ?_)) (fun h => absurd (by decide) h)
    rw [Int.tdiv_eq_ediv_of_nonneg hc.1]
    refine gd_rm ⟨⟨by omega, by omega⟩, ⟨by omega, by omega⟩, by omega⟩ ?_
    rw [Int.tmod_eq_emod_of_nonneg (by omega), show un 1 = 5 from rfl]; exact gd_ret
  · refine gd_cz (by decide) (fun _ => gd_cb (by decide) (fun _ => gd_dv ⟨⟨by omega, by omega⟩, ⟨by omega, by omega⟩, by omega⟩ ?_) (fun h => absurd (by decide) h)) (fun h => absurd (by decide) h)
    rw [Int.tdiv_eq_ediv_of_nonneg hc.1, show un 2 = 25 from rfl, show c / 25 % 5 = c / 25 by omega]; exact gd_ret
def bix (a b c : Int) : Int := 125 * (41 * a + b) + c
theorem bix_inj {a b c a' b' c' : Int} (hc : 0 ≤ c ∧ c < 125) (hc' : 0 ≤ c' ∧ c' < 125) (hb : 0 ≤ b ∧ b < 41) (hb' : 0 ≤ b' ∧ b' < 41) (e : bix a b c = bix a' b' c') : a = a' ∧ b = b' ∧ c = c' := by
  unfold bix at e
  obtain ⟨e1, e2⟩ := base_inj (by decide) hc hc' e
  obtain ⟨e3, e4⟩ := base_inj (by decide) hb hb' e1
  exact ⟨e3, e4, e2⟩
theorem d_X12_bestAt {a b c : Int} (ha : 0 ≤ a ∧ a ≤ 40) (hb : 0 ≤ b ∧ b ≤ 40) (hc : 0 ≤ c ∧ c < 125) : gd (g_X12_bestAt a b c) T ν (ν 91 (bix a b c)) := by
  unfold g_X12_bestAt
  exact gd_al ⟨by omega, by omega⟩ gd_ret
theorem mul_split (A P x y z : Int) : A * (x - y) + (A + P) * (y - z) = A * (x - z) + P * (y - z) := by
  rw [Int.add_mul, ← Int.add_assoc, ← Int.mul_add, show x - y + (y - z) = x - z by omega]
theorem d_X12_ofFall {law low high c k s : Int} (hR : rOK ν) (hlaw : 0 ≤ law ∧ law ≤ 3) (hk : isK k) (hl : 0 ≤ low) (h40 : high ≤ ν (-6903) 0) (hs : 1 ≤ s ∧ s ≤ ν (-6903) 0) (he : low < s - ν 71 k ∧ s - ν 71 k ≤ high) (hc : 0 ≤ c ∧ c < 125) (hp : 0 < pcs c k) (hw : ∀ t : Int, 0 ≤ t → t ≤ ν (-6903) 0 + 1 → ν 92 t = gsum (ν 74) t.toNat)
    (t1 : ν 91 (bix (s - ν 71 k) high c) = bv (pR ν law) (s - ν 71 k) high c) (t2 : ν 91 (bix low (s - ν 71 k - 1) (c - un k)) = bv (pR ν law) low (s - ν 71 k - 1) (c - un k)) : gd (g_X12_ofFall law low high c k s) T ν (bc (pR ν law) low high c k (s - ν 71 k)) := by
  have hok := pR_ok hR law
  obtain ⟨r1, r2, r3, r4, r5⟩ := hR
  have hki := isK_in hk
  have rd := (r4 k hki.1 hki.2).1
  have rp := (r4 k hki.1 hki.2).2
  have hu := pcs_un hk hk hc.1 hp
  have huv := un_val hk
  generalize he' : s - ν 71 k = e at *
  have q1 := bv_in hok _ e high c rfl (by omega) (by omega) (by omega)
  have q2 := bv_in hok _ low (e - 1) (c - un k) rfl hl (by omega) (by omega)
  have w1 := wOK r5 low (high + 1) hl (by omega) (by omega)
  have w2 := wOK r5 low e hl (by omega) (by omega)
  have w3 := wOK r5 e (high + 1) (by omega) (by omega) (by omega)
  have hcc := mul_in (x := ν (-6909) 0) (X := 9) (y := s) (Y := 40) r3 (by omega)
  have ed : e + bD (pR ν law) k = s := by show e + ν 71 k = s; omega
  unfold g_X12_ofFall
  refine gd_al hki (gd_let ?_)
  rw [he']
  refine gd_rd (d_X12_bestAt ⟨by omega, by omega⟩ ⟨by omega, by omega⟩ hc) (gd_rd (d_X12_oneOf hk) (gd_rd (d_X12_bestAt ⟨by omega, by omega⟩ ⟨by omega, by omega⟩ (by omega)) ?_))
  rw [t1, t2]
  unfold bc bx
  rw [ed]
  unfold g_X12_ofFall_60
  refine gd_cl ⟨⟨by omega, by omega⟩, ⟨by omega, by omega⟩⟩ (fun c1 => ?_) (fun c1 => gd_cl ⟨⟨by omega, by omega⟩, ⟨by omega, by omega⟩⟩ (fun c2 => ?_) (fun c2 => ?_))
  · rw [if_neg (fun hh => by omega)]; exact gd_ret
  · rw [if_pos ⟨hp, hs, by omega, c2⟩]
    have h106 : ∀ A P : Int, (0 ≤ A ∧ A ≤ 459) → (0 ≤ P ∧ P ≤ 99) → bFc (pR ν law) + bCc (pR ν law) * s = A → bPr (pR ν law) k = P → gd (g_X12_ofFall_106 law low high e (bv (pR ν law) e high c) (bv (pR ν law) low (e - 1) (c - un k)) A (A + P)) T ν (if (pR ν law).1 = true then bv (pR ν law) e high c + bv (pR ν law) low (e - 1) (c - un k) + (bFc (pR ν law) + bCc (pR ν law) * s) * (bW (pR ν law) (high + 1) - bW (pR ν law) low) + bPr (pR ν law) k * (bW (pR ν law) e - bW (pR ν law) low) else bFc (pR ν law) + bCc (pR ν law) * s + max (bv (pR ν law) e high c) (bv (pR ν law) low (e - 1) (c - un k) + bPr (pR ν law) k)) := fun A P hA hP eA eP => by
      rw [eA, eP]
      have eW : ∀ t : Int, bW (pR ν law) t = gsum (ν 74) t.toNat := fun t => rfl
      rw [eW, eW, eW]
      unfold g_X12_ofFall_106
      refine gd_rm ⟨⟨by omega, by omega⟩, ⟨by omega, by omega⟩, by omega⟩ ?_
      rw [Int.tmod_eq_emod_of_nonneg hlaw.1]
      by_cases cm : law = 1 ∨ law = 3
      · have em : (pR ν law).1 = true := decide_eq_true cm
        rw [if_pos em]
        refine gd_cz ⟨by omega, by omega⟩ (fun _ => gd_al ⟨by omega, by omega⟩ (gd_al ⟨by omega, by omega⟩ ?_)) (fun h => absurd (by omega) h)
        rw [hw (high + 1) (by omega) (by omega), hw e (by omega) (by omega)]
        refine gd_ck ⟨by omega, by omega⟩ (gd_al ⟨by omega, by omega⟩ (gd_al ⟨by omega, by omega⟩ ?_))
        rw [hw e (by omega) (by omega), hw low (by omega) (by omega)]
        refine gd_ck ⟨by omega, by omega⟩ ?_
        have := mul_split A P (gsum (ν 74) (high + 1).toNat) (gsum (ν 74) e.toNat) (gsum (ν 74) low.toNat)
        rw [show bv (pR ν law) e high c + A * (gsum (ν 74) (high + 1).toNat - gsum (ν 74) e.toNat) + bv (pR ν law) low (e - 1) (c - un k) + (A + P) * (gsum (ν 74) e.toNat - gsum (ν 74) low.toNat) = bv (pR ν law) e high c + bv (pR ν law) low (e - 1) (c - un k) + A * (gsum (ν 74) (high + 1).toNat - gsum (ν 74) low.toNat) + P * (gsum (ν 74) e.toNat - gsum (ν 74) low.toNat) by omega]
        exact gd_ret
      · have em : ¬ (pR ν law).1 = true := fun h => cm (of_decide_eq_true h)
        rw [if_neg em]
        refine gd_cz ⟨by omega, by omega⟩ (fun h => absurd (by omega) h) (fun _ => gd_ck ⟨⟨by omega, by omega⟩, ⟨by omega, by omega⟩⟩ (gd_let ?_))
        rw [show (if bv (pR ν law) e high c + A ≤ bv (pR ν law) low (e - 1) (c - un k) + (A + P) then bv (pR ν law) low (e - 1) (c - un k) + (A + P) else bv (pR ν law) e high c + A) = A + max (bv (pR ν law) e high c) (bv (pR ν law) low (e - 1) (c - un k) + P) by split <;> omega]
        exact gd_ret
    refine gd_cb ⟨⟨by omega, by omega⟩, ⟨by omega, by omega⟩⟩ (fun c3 => ?_) (fun c3 => ?_)
    · unfold g_X12_costOf
      refine gd_rd (gd_get (gd_get gd_ret)) (gd_ck ⟨by omega, by omega⟩ ?_)
      unfold g_X12_ofFall_80 g_X12_costOf
      refine gd_cb ⟨⟨by omega, by omega⟩, ⟨by omega, by omega⟩⟩ (fun _ => gd_rd (gd_get (gd_get gd_ret)) (gd_al hki (gd_ck ⟨by omega, by omega⟩ (h106 _ _ ⟨by omega, by omega⟩ rp ?_ ?_)))) (fun h => absurd c3 h)
      · show (if law < 2 then (1 : Int) else ν (-6908) 0) + (if law < 2 then (0 : Int) else ν (-6909) 0) * s = _
        rw [if_neg (by omega), if_neg (by omega)]
      · show (if law < 2 then (fun _ => (0 : Int)) else ν 73) k = _
        rw [if_neg (by omega)]
    · unfold g_X12_ofFall_80
      refine gd_cb ⟨⟨by omega, by omega⟩, ⟨by omega, by omega⟩⟩ (fun h => absurd h c3) (fun _ => h106 1 0 (by decide) (by decide) ?_ ?_)
      · show (if law < 2 then (1 : Int) else ν (-6908) 0) + (if law < 2 then (0 : Int) else ν (-6909) 0) * s = _
        rw [if_pos (by omega), if_pos (by omega)]
        omega
      · show (if law < 2 then (fun _ => (0 : Int)) else ν 73) k = _
        rw [if_pos (by omega)]
  · rw [if_neg (fun hh => by omega)]; exact gd_ret
end
