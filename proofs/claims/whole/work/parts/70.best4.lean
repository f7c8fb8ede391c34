/-! BEST: the table of the class -/
/-- the table's numbers are these -/
def eqC (ν : gN) (p : bP) : Prop := (p.1 = true ↔ ¬ ν (-3906) 0 = 0) ∧ ν (-3905) 0 = bTop p ∧ ν (-3907) 0 = bFc p ∧ ν (-3908) 0 = bCc p ∧ (∀ k : Int, isK k → ν 42 k = bD p k ∧ ν 43 k = bPr p k) ∧ ∀ t : Int, 0 ≤ t → t ≤ bTop p + 1 → ν 44 t = bW p t
def aBp : List Int := [-3905, -3906, -3907, -3908, 42, 43, 44]
theorem eqC_fr {ν τ : gN} {p : bP} (h : ∀ b ∈ aBp, τ b = ν b) (hp : eqC ν p) : eqC τ p := by
  unfold eqC
  rw [h (-3905) (by decide), h (-3906) (by decide), h (-3907) (by decide), h (-3908) (by decide), h 42 (by decide), h 43 (by decide), h 44 (by decide)]
  exact hp
/-- as the table has it -/
def bcl (v : Int) : Int := if v < 1000000000000 then v else 1000000000
/-- what a fall costs at least: also one that parts higher -/
theorem bc_ge {p : bP} (h : okP p) {low high c k e e' : Int} (hk : isK k) (h0 : 0 ≤ low) (h40 : high ≤ 40) (hc : 0 ≤ c) (e1 : low < e) (e2 : e ≤ e') (e3 : e' ≤ high) (hp : 0 < pcs c k) (hs : 1 ≤ e + bD p k) : bc p low high c k e' = 1000000000000 ∨ (bv p low (e - 1) (c - un k) < 1000000000000 ∧ (if p.1 = true then bv p low (e - 1) (c - un k) + (bFc p + bCc p * (e + bD p k)) * (bW p (high + 1) - bW p low) + bPr p k * (bW p e - bW p low) else bFc p + bCc p * (e + bD p k) + (bv p low (e - 1) (c - un k) + bPr p k)) ≤ bc p low high c k e') := by
  unfold bc bx
  by_cases cc : 0 < pcs c k ∧ (1 ≤ e' + bD p k ∧ e' + bD p k ≤ bTop p) ∧ bv p e' high c < 1000000000000 ∧ bv p low (e' - 1) (c - un k) < 1000000000000
  · right
    rw [if_pos cc]
    have hu := pcs_un hk hk hc hp
    have hsp := bv_span' h low (e - 1) (e' - 1) (c - un k) h0 (by omega) (by omega) (by omega) hu.2.2.2
    have hw0 := (bv_in h _ e' high c rfl (by omega) e3 h40).1
    have h4 := h.2.2.2.1 k hk
    have hcc : bCc p * (e + bD p k) ≤ bCc p * (e' + bD p k) := Int.mul_le_mul_of_nonneg_left (by omega) h.2.2.1.1
    refine ⟨by omega, ?_⟩
    by_cases cm : p.1 = true
    · rw [if_pos cm, if_pos cm]
      have w1 := h.2.2.2.2 low (high + 1) h0 (by omega) (by omega)
      have w2 := h.2.2.2.2 e e' (by omega) e2 (by omega)
      have m1 : (bFc p + bCc p * (e + bD p k)) * (bW p (high + 1) - bW p low) ≤ (bFc p + bCc p * (e' + bD p k)) * (bW p (high + 1) - bW p low) := Int.mul_le_mul_of_nonneg_right (by omega) w1.1
      have m2 : bPr p k * (bW p e - bW p low) ≤ bPr p k * (bW p e' - bW p low) := Int.mul_le_mul_of_nonneg_left (by omega) h4.2.1
      omega
    · rw [if_neg cm, if_neg cm]
      omega
  · left; rw [if_neg cc]
theorem ite_in {c : Prop} [Decidable c] {a b A B : Int} (ha : 0 ≤ a ∧ a ≤ A) (hb : 0 ≤ b ∧ b ≤ B) : (0 ≤ (if c then a + b else max a b) ∧ (if c then a + b else max a b) ≤ A + B) ∧ b ≤ (if c then a + b else max a b) := by split <;> omega
/-- a fall as the class sums it up -/
theorem bc_fin {p : bP} {low high c k e all g : Int} (hall : all = (if p.1 = true then bW p (high + 1) - bW p low else 1)) (hg : g = (if p.1 = true then bW p e - bW p low else 1)) (hpc : 0 < pcs c k) (hs : 1 ≤ e + bD p k ∧ e + bD p k ≤ bTop p) (hw : bv p e high c < 1000000000000) (hb : bv p low (e - 1) (c - un k) < 1000000000000) : bc p low high c k e = all * (bFc p + bCc p * (e + bD p k)) + (if p.1 = true then (g * bPr p k + bv p low (e - 1) (c - un k)) + bv p e high c else max (g * bPr p k + bv p low (e - 1) (c - un k)) (bv p e high c)) := by
  unfold bc bx
  rw [if_pos ⟨hpc, hs, hw, hb⟩, hall, hg]
  by_cases cm : p.1 = true
  · rw [if_pos cm, if_pos cm, if_pos cm, if_pos cm, Int.mul_comm (bW p (high + 1) - bW p low), Int.mul_comm (bW p e - bW p low)]
    omega
  · rw [if_neg cm, if_neg cm, if_neg cm, if_neg cm, Int.one_mul, Int.one_mul]
    omega
theorem bc_low {p : bP} {low high c k e all g : Int} (hall : all = (if p.1 = true then bW p (high + 1) - bW p low else 1)) (hg : g = (if p.1 = true then bW p e - bW p low else 1)) : (if p.1 = true then bv p low (e - 1) (c - un k) + (bFc p + bCc p * (e + bD p k)) * (bW p (high + 1) - bW p low) + bPr p k * (bW p e - bW p low) else bFc p + bCc p * (e + bD p k) + (bv p low (e - 1) (c - un k) + bPr p k)) = all * (bFc p + bCc p * (e + bD p k)) + (g * bPr p k + bv p low (e - 1) (c - un k)) := by
  rw [hall, hg]
  by_cases cm : p.1 = true
  · rw [if_pos cm, if_pos cm, if_pos cm, Int.mul_comm (bW p (high + 1) - bW p low), Int.mul_comm (bW p e - bW p low)]
    omega
  · rw [if_neg cm, if_neg cm, if_neg cm, Int.one_mul, Int.one_mul]
    omega
/-- one more fall, as the class compares it -/
theorem pk_br {paid gp br A : Int} (hp : 0 ≤ paid) (hg : 0 ≤ gp) (hA : A ≤ 90596880 ∨ A = 1000000000000) (hb : br ≤ 90596880 ∨ br = 1000000000000) (h : paid + (gp + bcl br) < bcl A) : br ≤ 90596880 := by
  rcases hb with hb | hb
  · exact hb
  · exfalso
    subst hb
    have e1 : bcl 1000000000000 = 1000000000 := rfl
    rw [e1] at h
    rcases hA with hA | hA
    · have e2 : bcl A = A := if_pos (by omega)
      omega
    · subst hA
      rw [e1] at h
      omega
theorem bcl_fin {v : Int} (h : v ≤ 90596880) : bcl v = v := if_pos (by omega)
theorem bcl_in {v : Int} (h0 : 0 ≤ v) : 0 ≤ bcl v ∧ (v ≤ 90596880 ∨ v = 1000000000000 → bcl v ≤ 1000000000) := by
  unfold bcl
  split <;> omega
theorem pk_sum {m X paid wh A : Int} {c : Prop} [Decidable c] {a : Int} (ha : 0 ≤ a ∧ a ≤ 91000000) (hp : 0 ≤ paid ∧ paid ≤ 2000000) (hw0 : 0 ≤ wh) (hw : wh ≤ 90596880 ∨ wh = 1000000000000) (hA : A ≤ 90596880 ∨ A = 1000000000000) (hm : m = if c then a + bcl wh else max a (bcl wh)) (hX1 : wh ≤ 90596880 → X = paid + (if c then a + wh else max a wh)) (hX2 : wh = 1000000000000 → X = 1000000000000) : (0 ≤ paid + m ∧ paid + m ≤ 2147483647) ∧ (bcl A ≤ paid + m → ¬ X < A) ∧ (paid + m < bcl A → X < A ∧ bcl X = paid + m) := by
  have hAcl : bcl A ≤ 1000000000 := by rcases hA with h | h <;> unfold bcl <;> split <;> omega
  have hAle : A ≤ 1000000000000 := by omega
  rcases hw with hw | hw
  · have e1 := bcl_fin hw
    have e2 := hX1 hw
    rw [e1] at hm
    rw [← hm] at e2
    have hm2 : 0 ≤ m ∧ m ≤ 182000000 := by
      have := (ite_in (c := c) ha ⟨hw0, hw⟩).1
      rw [← hm] at this
      omega
    refine ⟨by omega, fun h1 h2 => ?_, fun h1 => ⟨?_, ?_⟩⟩
    · rcases hA with hA | hA
      · rw [bcl_fin hA] at h1; omega
      · rw [hA, show bcl 1000000000000 = 1000000000 from rfl] at h1; omega
    · rcases hA with hA | hA
      · rw [bcl_fin hA] at h1; omega
      · omega
    · rw [e2]; exact if_pos (by omega)
  · have e2 := hX2 hw
    rw [hw, show bcl 1000000000000 = 1000000000 from rfl] at hm
    have hm3 := (ite_in (c := c) (a := a) (b := 1000000000) (A := 91000000) (B := 1000000000) ha (by omega))
    rw [← hm] at hm3
    exact ⟨by omega, fun _ h2 => by omega, fun h1 => by omega⟩
section
variable {T : gT} {ν : gN}
/-- the numbers of the table that a fall is picked with -/
def tri (ν : gN) (st : Int × Int × Int) : Prop := ν (-3915) 0 = bcl st.1 ∧ ν (-3916) 0 = st.2.1 ∧ ν (-3917) 0 = st.2.2
theorem s_209 {Q : Int → gN → Prop} {rec : Int × Int → gM Int} {k S F low to all tp x10 t paid m d : Int} {A : Int × Int × Int} (hk : 0 ≤ k ∧ k < 3) (h42 : ν 42 k = d) (h15 : ν (-3915) 0 = bcl A.1) (hA : 0 ≤ bcl A.1 ∧ bcl A.1 ≤ 1000000000) (hs : 0 ≤ paid + m ∧ paid + m ≤ 2147483647) (h1 : bcl A.1 ≤ paid + m → gv (rec (x10 + t, t + 1)) T ν Q) (h2 : paid + m < bcl A.1 → gv (rec (x10 + t, t + 1)) T (gup (gup (gup ν (-3915) 0 (paid + m)) (-3916) 0 k) (-3917) 0 (t + d)) Q) : gv (g_X0_pickOf_209 rec k S F low to all tp x10 t paid m) T ν Q := by
  unfold g_X0_pickOf_209 g_X0_pickOf_245
  refine gv_let (gv_get ?_)
  rw [h15]
  refine gv_cb ⟨⟨by omega, by omega⟩, ⟨by omega, by omega⟩⟩ (fun c => gv_let (gv_let (h1 c))) (fun c => gv_put (gv_put (gv_al hk ?_)))
  rw [gup_ne (by decide), gup_ne (by decide), h42]
  exact gv_put (gv_let (gv_let (h2 (by omega))))
theorem s_145 {Q : Int → gN → Prop} {rec : Int × Int → gM Int} {k S F low to all tp x10 t paid g d pr brc whc : Int} {A : Int × Int × Int} (hk : 0 ≤ k ∧ k < 3) (h42 : ν 42 k = d) (h43 : ν 43 k = pr) (h15 : ν (-3915) 0 = bcl A.1) (hA : 0 ≤ bcl A.1 ∧ bcl A.1 ≤ 1000000000) (h06 : 0 ≤ ν (-3906) 0 ∧ ν (-3906) 0 ≤ 1) (aS : arr T S 861) (aF : arr T F 861) (i1 : 0 ≤ x10 ∧ x10 < 861) (i2 : 0 ≤ tp + t ∧ tp + t < 861) (hF : ν F x10 = brc) (hS : ν S (tp + t) = whc) (hb : 0 ≤ brc ∧ brc ≤ 1000000000) (hw : 0 ≤ whc ∧ whc ≤ 1000000000) (hgp : 0 ≤ g * pr ∧ g * pr ≤ 401841) (hp : 0 ≤ paid ∧ paid ≤ 2000000)
    (h0 : bcl A.1 ≤ paid + (g * pr + brc) → Q 0 ν)
    (h1 : paid + (g * pr + brc) < bcl A.1 → ∀ m : Int, m = (if ¬ ν (-3906) 0 = 0 then (g * pr + brc) + whc else max (g * pr + brc) whc) → (0 ≤ paid + m ∧ paid + m ≤ 2147483647) ∧ (bcl A.1 ≤ paid + m → gv (rec (x10 + t, t + 1)) T ν Q) ∧ (paid + m < bcl A.1 → gv (rec (x10 + t, t + 1)) T (gup (gup (gup ν (-3915) 0 (paid + m)) (-3916) 0 k) (-3917) 0 (t + d)) Q)) : gv (g_X0_pickOf_145 rec k S F low to all tp x10 t paid g) T ν Q := by
  unfold g_X0_pickOf_145
  refine gv_al hk ?_
  rw [h43]
  refine gv_ala aF i1 ?_
  rw [hF]
  refine gv_let (gv_get ?_)
  rw [h15]
  refine gv_cb ⟨⟨by omega, by omega⟩, ⟨by omega, by omega⟩⟩ (fun c => gv_ala aS i2 ?_) (fun c => gv_ret (h0 (by omega)))
  rw [hS]
  refine gv_get ?_
  refine gv_cz ⟨by omega, by omega⟩ (fun c3 => gv_ck ⟨⟨by omega, by omega⟩, ⟨by omega, by omega⟩⟩ (gv_let ?_)) (fun c3 => ?_)
  · obtain ⟨q1, q2, q3⟩ := h1 c (max (g * pr + brc) whc) (by rw [if_neg (fun h => h c3)])
    exact s_209 hk h42 h15 hA q1 q2 q3
  · obtain ⟨q1, q2, q3⟩ := h1 c ((g * pr + brc) + whc) (by rw [if_pos c3])
    exact s_209 hk h42 h15 hA q1 q2 q3
/-- what is asked of the rows for one kind -/
def pkH (T : gT) (ν : gN) (p : bP) (S F low high c k : Int) : Prop := arr T S 861 ∧ arr T F 861 ∧ (∀ e : Int, low < e → e ≤ high → ν S (spn e high) = bcl (bv p e high c)) ∧ (∀ b : Int, low ≤ b → b < high → ν F (spn low b) = bcl (bv p low b (c - un k)))
theorem af_in {p : bP} (hok : okP p) {low high c k : Int} {st : Int × Int × Int} {n : Nat} (hk : isK k) (h0 : 0 ≤ low) (h40 : high ≤ 40) (hn : (n : Int) ≤ high - low) (hst : 0 ≤ st.1 ∧ (st.1 ≤ 90596880 ∨ st.1 = 1000000000000)) : 0 ≤ (af (bc p low high c k) k (bD p k) (low + 1) st n).1 ∧ ((af (bc p low high c k) k (bD p k) (low + 1) st n).1 ≤ 90596880 ∨ (af (bc p low high c k) k (bD p k) (low + 1) st n).1 = 1000000000000) := by
  rw [af_fst]
  have hcd : ∀ j : Nat, j < n → 0 ≤ bc p low high c k (low + 1 + j) ∧ (bc p low high c k (low + 1 + j) ≤ 90596880 ∨ bc p low high c k (low + 1 + j) = 1000000000000) := fun j hj => by
    have a1 := bv_in hok _ (low + 1 + j) high c rfl (by omega) (by omega) h40
    have a2 := bv_in hok _ low (low + 1 + j - 1) (c - un k) rfl h0 (by omega) (by omega)
    have a3 := bx_in hok (c := c) hk h0 h40 (e := low + 1 + j) ⟨by omega, by omega⟩ a1.1 a2.1
    unfold bc
    refine ⟨a3.1, ?_⟩
    rcases a3.2 with g | ⟨g1, g2, g3⟩
    · exact Or.inr g
    · left; omega
  refine ⟨le_gmn _ hst.1 (fun j hj => (hcd j hj).1), ?_⟩
  rcases gmn_mem (bc p low high c k) (low + 1) st.1 n with g | ⟨j, hj, g⟩
  · rw [g]; exact hst.2
  · rw [g]; exact (hcd j hj).2
theorem bv_90 {p : bP} (hok : okP p) {low high c : Int} (h0 : 0 ≤ low) (h1 : low ≤ high) (h40 : high ≤ 40) : 0 ≤ bv p low high c ∧ (bv p low high c ≤ 90596880 ∨ bv p low high c = 1000000000000) := by
  have := bv_in hok _ low high c rfl h0 h1 h40
  refine ⟨this.1, ?_⟩
  rcases this.2 with g | g
  · exact Or.inr g
  · left; omega
/-- no later fall is cheaper, if this one is too dear before it is known -/
theorem pk_stop {p : bP} (hok : okP p) {low high c k t all g A : Int} (hk : isK k) (h0 : 0 ≤ low) (h40 : high ≤ 40) (hc : 0 ≤ c) (hpc : 0 < pcs c k) (ht : low < t ∧ t ≤ high) (hs : 1 ≤ t + bD p k) (hall : all = (if p.1 = true then bW p (high + 1) - bW p low else 1)) (hg : g = (if p.1 = true then bW p t - bW p low else 1)) (hA : A ≤ 90596880 ∨ A = 1000000000000) (h : bcl A ≤ all * (bFc p + bCc p * (t + bD p k)) + (g * bPr p k + bcl (bv p low (t - 1) (c - un k)))) : ∀ e : Int, t ≤ e → e ≤ high → A ≤ bc p low high c k e := by
  intro e e1 e2
  have hge := bc_ge hok (c := c) (e := t) (e' := e) hk h0 h40 hc ht.1 e1 e2 hpc hs
  rcases hge with g1 | ⟨g1, g2⟩
  · omega
  · rw [bc_low hall hg] at g2
    have e3 : bcl (bv p low (t - 1) (c - un k)) = bv p low (t - 1) (c - un k) := if_pos g1
    rw [e3] at h
    rcases hA with hA | hA
    · rw [bcl_fin hA] at h; omega
    · rw [hA, show bcl 1000000000000 = 1000000000 from rfl] at h
      have b0 := bc_nonneg hok (c := c) hk h0 h40 (show low < e by omega) e2
      have b1 : bc p low high c k e = 1000000000000 ∨ bc p low high c k e ≤ 95000000 := by
        have a1 := bv_in hok _ e high c rfl (by omega) e2 h40
        have a2 := bv_in hok _ low (e - 1) (c - un k) rfl h0 (by omega) (by omega)
        have a3 := bx_in hok (c := c) hk h0 h40 (e := e) ⟨by omega, e2⟩ a1.1 a2.1
        unfold bc
        rcases a3.2 with g | ⟨q1, q2, q3⟩
        · exact Or.inl g
        · right; omega
      omega
theorem s_X0_pickOf_88 {p : bP} {S F low high c k all : Int} {st : Int × Int × Int} (hp : eqC ν p) (hok : okP p) (h06 : 0 ≤ ν (-3906) 0 ∧ ν (-3906) 0 ≤ 1) (hk : isK k) (hl : 0 ≤ low ∧ low < high ∧ high ≤ bTop p) (hc : 0 ≤ c ∧ c < 125) (hpc : 0 < pcs c k) (hH : pkH T ν p S F low high c k) (hst : 0 ≤ st.1 ∧ (st.1 ≤ 90596880 ∨ st.1 = 1000000000000)) (ht : tri ν st) (hall : all = (if p.1 = true then bW p (high + 1) - bW p low else 1)) (hall1 : 0 ≤ all ∧ all ≤ 4059) :
    gv (g_X0_pickOf_88 k S F low (min high (bTop p - bD p k)) all (spn 0 high) (spn low (max (low + 1) (1 - bD p k) - 1)) (max (low + 1) (1 - bD p k))) T ν (fun _ ν' => gfr [-3915, -3916, -3917] ν ν' ∧ tri ν' (af (bc p low high c k) k (bD p k) (low + 1) st (high - low).toNat)) := by
  have hki := isK_in hk
  have hd := (hok.2.2.2.1 k hk).1
  have hpr := (hok.2.2.2.1 k hk).2
  have htop := hok.1
  have h40 : high ≤ 40 := by omega
  have eD : ν 42 k = bD p k := (hp.2.2.2.2.1 k hk).1
  have eP : ν 43 k = bPr p k := (hp.2.2.2.2.1 k hk).2
  have eT : ν (-3905) 0 = bTop p := hp.2.1
  have eM : (p.1 = true) ↔ ¬ ν (-3906) 0 = 0 := hp.1
  obtain ⟨aS, aF, hS, hF⟩ := hH
  generalize hdd : bD p k = d at *
  unfold g_X0_pickOf_88
  refine gv_fx (fun (q : Int × Int) τ => max (low + 1) (1 - d) ≤ q.2 ∧ q.2 ≤ max (max (low + 1) (1 - d)) (min high (bTop p - d) + 1) ∧ q.1 = spn low (q.2 - 1) ∧ gfr [-3915, -3916, -3917] ν τ ∧ tri τ (af (bc p low high c k) k d (low + 1) st (min high (q.2 - 1) - low).toNat)) (fun q _ => (200 - q.2).toNat) ⟨Int.le_refl _, by show max (low + 1) (1 - d) ≤ _; omega, rfl, gfr.refl _ _, ?_⟩ (by show (200 - max (low + 1) (1 - d)).toNat < 100000; omega) ?_
  · rw [af_stay (a := 0) _ (by omega) (fun i _ hi => ?_)]
    · exact ht
    · show st.1 ≤ bc p low high c k (low + 1 + i)
      have : bc p low high c k (low + 1 + i) = 1000000000000 := by
        unfold bc bx
        rw [if_neg (fun hh => by
          have h9 := hh.2.1.1
          rw [hdd] at h9
          have hi2 : i < (min high (max (low + 1) (1 - d) - 1) - low).toNat := hi
          omega)]
      omega
  · intro rec q τ hI hrec
    obtain ⟨q1, q2, q3, hf, htr⟩ := hI
    have hAin := af_in hok (c := c) (k := k) (st := st) (n := (min high (q.2 - 1) - low).toNat) hk hl.1 h40 (by omega) hst
    rw [hdd] at hAin
    generalize hA : af (bc p low high c k) k d (low + 1) st (min high (q.2 - 1) - low).toNat = A at *
    obtain ⟨t1, t2, t3⟩ := htr
    have eR : ∀ b ∈ aBp, τ b = ν b := hf.eq (by decide)
    unfold gB_X0_pickOf_88
    refine gv_cb ⟨⟨by omega, by omega⟩, ⟨by omega, by omega⟩⟩ (fun c1 => gv_ret ⟨hf, ?_⟩) (fun c1 => gv_get (gv_get (gv_al hki (gv_let (gv_get ?_)))))
    · have estay : af (bc p low high c k) k d (low + 1) st (high - low).toNat = af (bc p low high c k) k d (low + 1) st (min high (q.2 - 1) - low).toNat := by
        refine af_stay _ (by omega) (fun i i1 i2 => ?_)
        rw [hA]
        have : bc p low high c k (low + 1 + i) = 1000000000000 := by
          unfold bc bx
          rw [if_neg (fun hh => by have := hh.2.1.2; rw [hdd] at this; omega)]
        omega
      rw [estay, hA]
      exact ⟨t1, t2, t3⟩
    · have het : low < q.2 ∧ q.2 ≤ high ∧ 1 ≤ q.2 + d ∧ q.2 + d ≤ bTop p := by omega
      rw [eR (-3907) (by decide), eR (-3908) (by decide), eR 42 (by decide), eR (-3906) (by decide), eD]
      have hco := cost_in hok (s := q.2 + d) het.2.2
      have hpaid := mul_in (x := all) (X := 4059) (y := bFc p + bCc p * (q.2 + d)) (Y := 459) hall1 hco
      have eco : all * (ν (-3907) 0 + ν (-3908) 0 * (q.2 + d)) = all * (bFc p + bCc p * (q.2 + d)) := by rw [hp.2.2.1, hp.2.2.2.1]
      rw [eco]
      have w2 := hok.2.2.2.2 low q.2 hl.1 (by omega) (by omega)
      have hbv := bv_90 hok (low := low) (high := q.2 - 1) (c := c - un k) hl.1 (by omega) (by omega)
      have hwv := bv_90 hok (low := q.2) (high := high) (c := c) (by omega) (by omega) h40
      have hbc := bcl_in hbv.1
      have hwc := bcl_in hwv.1
      have hAc := bcl_in hAin.1
      have nS : τ S = ν S := hf S (by have := aS.2.1; simp only [List.mem_cons, List.not_mem_nil, or_false]; omega)
      have nF : τ F = ν F := hf F (by have := aF.2.1; simp only [List.mem_cons, List.not_mem_nil, or_false]; omega)
      have ecnt : (min high (q.2 + 1 - 1) - low).toNat = (min high (q.2 - 1) - low).toNat + 1 := by omega
      have elast : low + 1 + ((min high (q.2 - 1) - low).toNat : Int) = q.2 := by omega
      have hz2 : (200 - (q.2 + 1)).toNat < (200 - q.2).toNat := by omega
      have espn : spn low (q.2 - 1) + q.2 = spn low (q.2 + 1 - 1) := by
        unfold spn
        rw [show (q.2 + 1 - 1).toNat = (q.2 - 1).toNat + 1 by omega]
        show (trN (q.2 - 1).toNat : Int) + low + q.2 = ((trN (q.2 - 1).toNat + (q.2 - 1).toNat + 1 : Nat) : Int) + low
        omega
      have estep : af (bc p low high c k) k d (low + 1) st (min high (q.2 + 1 - 1) - low).toNat = if bc p low high c k q.2 < A.1 then (bc p low high c k q.2, k, q.2 + d) else A := by
        rw [ecnt]
        show (if bc p low high c k (low + 1 + ((min high (q.2 - 1) - low).toNat : Int)) < (af _ _ _ _ _ (min high (q.2 - 1) - low).toNat).1 then (bc p low high c k (low + 1 + ((min high (q.2 - 1) - low).toNat : Int)), k, low + 1 + ((min high (q.2 - 1) - low).toNat : Int) + d) else _) = _
        rw [elast, hA]
      have hg1 : q.2 + 1 ≤ max (max (low + 1) (1 - d)) (min high (bTop p - d) + 1) ∧ max (low + 1) (1 - d) ≤ q.2 + 1 := by omega
      have hsp1 := spn_in (a := low) (b := q.2 - 1) (by omega)
      have hsp2 := spn_in (a := q.2) (b := high) (by omega)
      have esp2 : spn 0 high + q.2 = spn q.2 high := by unfold spn; omega
      have hFv := hF (q.2 - 1) (by omega) (by omega)
      have hSv := hS q.2 (by omega) (by omega)
      have hcount : (min high (q.2 - 1) - low).toNat ≤ (high - low).toNat ∧ ∀ i : Nat, (min high (q.2 - 1) - low).toNat ≤ i → i < (high - low).toNat → q.2 ≤ low + 1 + i ∧ low + 1 + (i : Int) ≤ high := by
        refine ⟨by omega, fun i i1 i2 => by omega⟩
      clear hS hF ecnt elast c1 q1 q2
      have hall' := hall
      have h145 : ∀ g : Int, g = (if p.1 = true then bW p q.2 - bW p low else 1) → gv (g_X0_pickOf_145 rec k S F low (min high (bTop p - d)) all (spn 0 high) q.1 q.2 (all * (bFc p + bCc p * (q.2 + d))) g) T τ (fun _ ν' => gfr [-3915, -3916, -3917] ν ν' ∧ tri ν' (af (bc p low high c k) k d (low + 1) st (high - low).toNat)) := fun g hg => by
        have hg1' : 0 ≤ g ∧ g ≤ 4059 := by rw [hg]; split <;> omega
        have hgp := mul_in (x := g) (X := 4059) (y := bPr p k) (Y := 99) hg1' hpr
        rw [q3]
        refine s_145 (A := A) (d := d) (pr := bPr p k) (brc := bcl (bv p low (q.2 - 1) (c - un k))) (whc := bcl (bv p q.2 high c)) hki (by rw [eR 42 (by decide)]; exact eD) (by rw [eR 43 (by decide)]; exact eP) t1 ⟨hAc.1, hAc.2 hAin.2⟩ (by rw [eR (-3906) (by decide)]; exact h06) aS aF hsp1 (by rw [esp2]; exact hsp2) (by rw [nF]; exact hFv) (by rw [nS, esp2]; exact hSv) ⟨hbc.1, hbc.2 hbv.2⟩ ⟨hwc.1, hwc.2 hwv.2⟩ ⟨hgp.1, hgp.2⟩ ⟨hpaid.1, Int.le_trans hpaid.2 (by decide)⟩ (fun hdear => ⟨hf, ?_⟩) (fun hch m hm => ?_)
        · have hstop := pk_stop hok (c := c) (t := q.2) (all := all) (g := g) (A := A.1) hk hl.1 h40 hc.1 hpc ⟨het.1, het.2.1⟩ (by rw [hdd]; exact het.2.2.1) hall' hg hAin.2 (by rw [hdd]; exact hdear)
          have estay : af (bc p low high c k) k d (low + 1) st (high - low).toNat = af (bc p low high c k) k d (low + 1) st (min high (q.2 - 1) - low).toNat := by
            refine af_stay _ hcount.1 (fun i i1 i2 => ?_)
            rw [hA]
            exact hstop _ (hcount.2 i i1 i2).1 (hcount.2 i i1 i2).2
          rw [estay, hA]
          exact ⟨t1, t2, t3⟩
        · have hbr := pk_br hpaid.1 hgp.1 hAin.2 hbv.2 hch
          rw [bcl_fin hbr] at hm
          have eMm : (if ¬ τ (-3906) 0 = 0 then (g * bPr p k + bv p low (q.2 - 1) (c - un k)) + bcl (bv p q.2 high c) else max (g * bPr p k + bv p low (q.2 - 1) (c - un k)) (bcl (bv p q.2 high c))) = (if p.1 = true then (g * bPr p k + bv p low (q.2 - 1) (c - un k)) + bcl (bv p q.2 high c) else max (g * bPr p k + bv p low (q.2 - 1) (c - un k)) (bcl (bv p q.2 high c))) := by
            rw [eR (-3906) (by decide)]
            by_cases cm : p.1 = true
            · rw [if_pos cm, if_pos (eM.mp cm)]
            · rw [if_neg cm, if_neg (fun h => cm (eM.mpr h))]
          rw [eMm] at hm
          have hps := pk_sum (m := m) (X := bc p low high c k q.2) (paid := all * (bFc p + bCc p * (q.2 + d))) (wh := bv p q.2 high c) (A := A.1) (c := p.1 = true) (a := g * bPr p k + bv p low (q.2 - 1) (c - un k)) (by omega) ⟨hpaid.1, Int.le_trans hpaid.2 (by decide)⟩ hwv.1 hwv.2 hAin.2 hm (fun hw => by
            have := bc_fin (c := c) (k := k) hall' hg hpc (by rw [hdd]; exact het.2.2) (show bv p q.2 high c < 1000000000000 by omega) (show bv p low (q.2 - 1) (c - un k) < 1000000000000 by omega)
            rw [hdd] at this
            exact this) (fun hw => by unfold bc bx; rw [if_neg (fun hh => by have := hh.2.2.1; omega)])
          refine ⟨hps.1, fun h1 => hrec _ _ ⟨hg1.2, hg1.1, espn, hf, ?_⟩ hz2, fun h1 => hrec _ _ ⟨hg1.2, hg1.1, espn, ((hf.up (by decide)).up (by decide)).up (by decide), ?_⟩ hz2⟩
          · show tri τ (af (bc p low high c k) k d (low + 1) st (min high (q.2 + 1 - 1) - low).toNat)
            rw [estep, if_neg (hps.2.1 h1)]
            exact ⟨t1, t2, t3⟩
          · show tri _ (af (bc p low high c k) k d (low + 1) st (min high (q.2 + 1 - 1) - low).toNat)
            obtain ⟨g1, g2⟩ := hps.2.2 h1
            rw [estep, if_pos g1]
            refine ⟨?_, ?_, ?_⟩
            · simp (disch := decide) only [gup_ne, gup_at]
              exact g2.symm
            · simp (disch := decide) only [gup_ne, gup_at]
            · simp (disch := decide) only [gup_ne, gup_at]
      refine gv_cz ⟨by omega, by omega⟩ (fun c3 => h145 1 ?_) (fun c3 => gv_al ⟨by omega, by omega⟩ (gv_al ⟨by omega, by omega⟩ ?_))
      · rw [if_neg (fun h => eM.mp h c3)]
      · rw [eR 44 (by decide)]
        refine h145 _ ?_
        rw [if_pos (eM.mpr c3), hp.2.2.2.2.2 q.2 (by omega) (by omega), hp.2.2.2.2.2 low (by omega) (by omega)]
theorem s_X0_pickOf {p : bP} {S F low high c k : Int} {st : Int × Int × Int} (hp : eqC ν p) (hok : okP p) (h06 : 0 ≤ ν (-3906) 0 ∧ ν (-3906) 0 ≤ 1) (hk : isK k) (aS : arr T S 861) (aF : arr T F 861) (hl : 0 ≤ low ∧ low < high ∧ high ≤ bTop p) (hc : 0 ≤ c ∧ c < 125) (hpc : 0 < pcs c k)
    (hS : ∀ e : Int, low < e → e ≤ high → ν S (spn e high) = bcl (bv p e high c)) (hF : ∀ b : Int, low ≤ b → b < high → ν F (spn low b) = bcl (bv p low b (c - un k))) (hst : 0 ≤ st.1 ∧ (st.1 ≤ 90596880 ∨ st.1 = 1000000000000)) (ht : tri ν st) :
    gv (g_X0_pickOf k S F low high) T ν (fun _ ν' => gfr [-3915, -3916, -3917] ν ν' ∧ tri ν' (af (bc p low high c k) k (bD p k) (low + 1) st (high - low).toNat)) := by
  have hki := isK_in hk
  have hd := (hok.2.2.2.1 k hk).1
  have htop := hok.1
  have w1 := hok.2.2.2.2 low (high + 1) hl.1 (by omega) (by omega)
  have eD : ν 42 k = bD p k := (hp.2.2.2.2.1 k hk).1
  have eT : ν (-3905) 0 = bTop p := hp.2.1
  have eM : (p.1 = true) ↔ ¬ ν (-3906) 0 = 0 := hp.1
  have h63 : ∀ all : Int, all = (if p.1 = true then bW p (high + 1) - bW p low else 1) → gv (g_X0_pickOf_63 k S F low high (max (low + 1) (1 - bD p k)) (min high (bTop p - bD p k)) all) T ν (fun _ ν' => gfr [-3915, -3916, -3917] ν ν' ∧ tri ν' (af (bc p low high c k) k (bD p k) (low + 1) st (high - low).toNat)) := fun all hall => by
    unfold g_X0_pickOf_63
    refine gv_rd (d_X11_spanAt ⟨by omega, by omega⟩) (gv_rd (d_X11_spanAt ⟨by omega, by omega⟩) ?_)
    exact s_X0_pickOf_88 hp hok h06 hk hl hc hpc ⟨aS, aF, hS, hF⟩ hst ht hall (by rw [hall]; split <;> omega)
  unfold g_X0_pickOf
  refine gv_al hki ?_
  rw [eD]
  refine gv_ck ⟨⟨by omega, by omega⟩, ⟨by omega, by omega⟩⟩ (gv_let (gv_get (gv_al hki ?_)))
  rw [eD, eT]
  refine gv_ck ⟨⟨by omega, by omega⟩, ⟨by omega, by omega⟩⟩ (gv_let (gv_get (gv_cz ⟨by omega, by omega⟩ (fun c3 => h63 1 ?_) (fun c3 => gv_al ⟨by omega, by omega⟩ (gv_al ⟨by omega, by omega⟩ (h63 _ ?_))))))
  · rw [if_neg (fun h => eM.mp h c3)]
  · rw [if_pos (eM.mpr c3), hp.2.2.2.2.2 (high + 1) (by omega) (by omega), hp.2.2.2.2.2 low (by omega) (by omega)]
end
