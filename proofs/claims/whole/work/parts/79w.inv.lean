/-! PLAN: what holds of the reader's rows before each token -/
def wdO (w : Int) : Prop := (0 ≤ w ∧ w < 1000) ∨ (1009 ≤ w ∧ w ≤ 1030)
def exW (W : Int → Int) (a b : Int) : Prop := 0 ≤ a ∧ a < b ∧ wf W a (b - a).toNat ∧ (sn W a (b - a).toNat).length = 1
def cf (NT : Int → Int) (i : Int) : Int := if i = 0 then 0 else NT (i - 1)
def coO (W : Int → Int) (a b : Int) : Prop := (a = b ∧ 0 ≤ a) ∨ exW W a b
def lnO (W DE NF NT : Int → Int) (o i : Int) : Prop := coO W (cf NT i) (NF i) ∧ exW W (NF i) (NT i) ∧ (0 ≤ DE i ∧ DE i ≤ 3) ∧ NT i ≤ o
def pL (S : gN) : Prop := (0 ≤ S 7 0 ∧ S 7 0 ≤ 12) ∧ (0 ≤ S 2 0 ∧ S 2 0 ≤ 64) ∧ (∀ j : Int, 0 ≤ j → j < S 2 0 → wdO (S 8 j)) ∧ (∀ i : Int, 0 ≤ i → i < S 7 0 → lnO (S 8) (S 11) (S 12) (S 13) (S 2 0) i)
def pE (S : gN) (m : Int) (e : Nat) : Prop := ∃ h o s : Nat, S 3 0 = h ∧ S 2 0 = o ∧ S 14 0 = s ∧ exI (S 9) (S 10) (S 8) h o s m (S 4 0) e
def pX (S : gN) (m : Int) (e : Nat) : Prop := pE S m e ∧ S 10 (S 4 0) = cvr (S 9) (S 3 0).toNat
def pN (S : gN) : Prop := coO (S 8) (cf (S 13) (S 7 0)) (S 12 (S 7 0))
def pC (S : gN) : Prop := (S 6 0 = 1 ∧ S 14 0 = cf (S 13) (S 7 0)) ∨ (S 6 0 = 0 ∧ S 14 0 = S 12 (S 7 0) ∧ pN S ∧ (0 ≤ S 11 (S 7 0) ∧ S 11 (S 7 0) ≤ 3))
def p0 (S : gN) : Prop := S 0 0 = 0 ∧ S 2 0 = S 1 0 ∧ S 2 0 = cf (S 13) (S 7 0)
def p1 (S : gN) : Prop := S 0 0 = 1 ∧ S 7 0 < 12 ∧ S 2 0 = S 1 0 ∧ S 6 0 = 0 ∧ S 12 (S 7 0) = S 2 0 ∧ pN S
def p2 (S : gN) : Prop := S 0 0 = 2 ∧ S 7 0 < 12 ∧ pX S (S 1 0) 0 ∧ (S 5 0 = 0 ∨ S 5 0 = 1) ∧ (S 5 0 = 1 → ∀ g : Nat, S 3 0 = g + 1 → bnd (S 9 g) ≤ 3) ∧ pC S
def p3 (S : gN) : Prop := S 0 0 = 3 ∧ S 7 0 < 12 ∧ pX S (S 1 0) 1 ∧ pC S
def pI (S : gN) : Prop := pL S ∧ (p0 S ∨ p1 S ∨ p2 S ∨ p3 S)
theorem exW_congr {W W' : Int → Int} {a b : Int} (h : exW W a b) (hW : ∀ j : Int, 0 ≤ j → j < b → W' j = W j) : exW W' a b := by
  obtain ⟨h1, h2, h3, h4⟩ := h
  have hc : ∀ j : Nat, j < (b - a).toNat → W' (a + j) = W (a + j) := fun j hj => hW _ (by omega) (by omega)
  exact ⟨h1, h2, wf_congr h3 hc, by rw [sn_congr _ hc]; exact h4⟩
theorem coO_congr {W W' : Int → Int} {a b : Int} (h : coO W a b) (hW : ∀ j : Int, 0 ≤ j → j < b → W' j = W j) : coO W' a b := h.elim Or.inl (fun g => Or.inr (exW_congr g hW))
theorem lnO_congr {W DE NF NT W' : Int → Int} {o o' i : Int} (h : lnO W DE NF NT o i) (ho : o ≤ o') (hW : ∀ j : Int, 0 ≤ j → j < o → W' j = W j) : lnO W' DE NF NT o' i := by
  obtain ⟨h1, h2, h3, h4⟩ := h
  have := h2.2.1
  exact ⟨coO_congr h1 (fun j a b => hW j a (by omega)), exW_congr h2 (fun j a b => hW j a (by omega)), h3, by omega⟩
section
variable {S : gN} {m : Int} {e : Nat}
theorem pop1_3 : pop1 S 3 0 = S 3 0 - 1 := by unfold pop1 wrt; rw [gup_ne (by decide), gup_ne (by decide), gup_at]
theorem pop1_2 : pop1 S 2 0 = S 2 0 + 1 := by unfold pop1 wrt; rw [gup_at, gup_ne (by decide)]
theorem pop1_8 (j : Int) : pop1 S 8 j = if j = S 2 0 then 1000 + S 9 (S 3 0 - 1) else S 8 j := by unfold pop1 wrt; rw [gup_ne (by decide), gup_same, gup_ne (a := 3) (by decide), gup_ne (a := 3) (by decide)]
theorem pop1_r {r : Int} (h1 : r ≠ 8) (h2 : r ≠ 3) (h3 : r ≠ 2) : pop1 S r = S r := by unfold pop1 wrt; rw [gup_ne h3, gup_ne h1, gup_ne h2]
def agr (S S' : gN) : Prop := (∀ r : Int, r ≠ 8 → r ≠ 3 → r ≠ 2 → S' r = S r) ∧ S 2 0 ≤ S' 2 0 ∧ (∀ j : Int, j < S 2 0 → S' 8 j = S 8 j)
theorem pE_pop (h : pE S m 1) (h1 : 0 < S 3 0) (h2 : 1 ≤ bnd (S 9 (S 3 0 - 1))) : pE (pop1 S) m 1 := by
  obtain ⟨h0, o, s, e1, e2, e3, hE⟩ := h
  obtain ⟨g, rfl⟩ : ∃ g, h0 = g + 1 := ⟨h0 - 1, by omega⟩
  rw [show S 3 0 - 1 = (g : Int) by omega] at h2
  have h3 : S 9 g ≠ 3 := fun c => by have := (hk_bnd (hE.1 g (by omega))).1 c; omega
  refine ⟨g, o + 1, s, by rw [pop1_3]; omega, by rw [pop1_2]; omega, by rw [pop1_r (by decide) (by decide) (by decide)]; exact e3, ?_⟩
  rw [pop1_r (r := 9) (by decide) (by decide) (by decide), pop1_r (r := 10) (by decide) (by decide) (by decide), pop1_r (r := 4) (by decide) (by decide) (by decide)]
  refine eI_pop hE h3 (fun j hj => by rw [pop1_8, if_neg (by omega)]) ?_
  rw [pop1_8, if_pos (by omega), show S 3 0 - 1 = (g : Int) by omega]
theorem pE_64 (h : pE S m e) : 0 ≤ S 2 0 ∧ S 2 0 ≤ 64 ∧ 0 ≤ S 3 0 ∧ S 3 0 ≤ 72 ∧ 0 ≤ S 4 0 ∧ S 4 0 ≤ 8 ∧ 0 ≤ m ∧ m ≤ 64 ∧ (0 < S 3 0 → S 9 (S 3 0 - 1) ≠ 3 → S 2 0 < 64) := by
  obtain ⟨h0, o, s, e1, e2, e3, h1, h2, h4, h5, h6, h7⟩ := h
  have := np_pr (S 9) h0
  refine ⟨by omega, by omega, by omega, by omega, by omega, by omega, by omega, by omega, fun c1 c2 => ?_⟩
  obtain ⟨g, rfl⟩ : ∃ g, h0 = g + 1 := ⟨h0 - 1, by omega⟩
  rw [show S 3 0 - 1 = (g : Int) by omega] at c2
  have en : np (S 9) (g + 1) = np (S 9) g + (if S 9 g = 3 then 0 else 1) := rfl
  rw [if_neg c2] at en
  omega
theorem wOK_hk {k : Int} (h : hk k) (h3 : k ≠ 3) : wdO (1000 + k) := by unfold hk at h; unfold wdO; omega
theorem pL_app {S' : gN} (h : pL S) (h7 : S' 7 0 = S 7 0) (h11 : S' 11 = S 11) (h12 : S' 12 = S 12) (h13 : S' 13 = S 13) (a2 : S 2 0 ≤ S' 2 0) (a3 : ∀ j : Int, j < S 2 0 → S' 8 j = S 8 j) (ho : S' 2 0 ≤ 64) (hw : ∀ j : Int, S 2 0 ≤ j → j < S' 2 0 → wdO (S' 8 j)) : pL S' := by
  obtain ⟨h1, h2, h3, h4⟩ := h
  refine ⟨by rw [h7]; exact h1, ⟨by omega, ho⟩, fun j c1 c2 => ?_, fun i c1 c2 => ?_⟩
  · by_cases c : j < S 2 0
    · rw [a3 j c]; exact h3 j c1 c
    · exact hw j (by omega) c2
  · rw [h7] at c2
    rw [h11, h12, h13]
    exact lnO_congr (h4 i c1 c2) a2 (fun j _ g => a3 j g)
theorem pL_agr {S' : gN} (h : pL S) (ha : agr S S') (ho : S' 2 0 ≤ 64) (hw : ∀ j : Int, S 2 0 ≤ j → j < S' 2 0 → wdO (S' 8 j)) : pL S' :=
  pL_app h (by rw [ha.1 7 (by decide) (by decide) (by decide)]) (ha.1 11 (by decide) (by decide) (by decide)) (ha.1 12 (by decide) (by decide) (by decide)) (ha.1 13 (by decide) (by decide) (by decide)) ha.2.1 ha.2.2 ho hw
/-- what is let go keeps all -/
theorem rel_all {x : Int} (hx : 1 ≤ x) (hE : pE S m 1) (hL : pL S) : agr S (rel S x) ∧ pE (rel S x) m 1 ∧ pL (rel S x) ∧ (5 ≤ x → cvr (rel S x 9) (rel S x 3 0).toNat = cvr (S 9) (S 3 0).toNat) ∧ ¬ (0 < rel S x 3 0 ∧ x ≤ bnd (rel S x 9 (rel S x 3 0 - 1))) := by
  have h := rel_ind (x := x) (fun S' => agr S S' ∧ pE S' m 1 ∧ pL S' ∧ (5 ≤ x → cvr (S' 9) (S' 3 0).toNat = cvr (S 9) (S 3 0).toNat)) ?_ (S 3 0).toNat S rfl ⟨⟨fun _ _ _ _ => rfl, Int.le_refl _, fun _ _ => rfl⟩, hE, hL, fun _ => rfl⟩
  · exact ⟨h.1.1, h.1.2.1, h.1.2.2.1, h.1.2.2.2, h.2⟩
  · intro S' hS c1 c2
    obtain ⟨a, b, c, d⟩ := hS
    have hE' := pE_pop b c1 (by omega)
    have ha' : agr S' (pop1 S') := ⟨fun r q1 q2 q3 => pop1_r q1 q2 q3, by rw [pop1_2]; omega, fun j hj => by rw [pop1_8, if_neg (by omega)]⟩
    have hkk : hk (S' 9 (S' 3 0 - 1)) := by
      obtain ⟨h0, o, s, e1, e2, e3, hE0⟩ := b
      obtain ⟨g, rfl⟩ : ∃ g, h0 = g + 1 := ⟨h0 - 1, by omega⟩
      rw [show S' 3 0 - 1 = (g : Int) by omega]; exact hE0.1 g (by omega)
    have h3 : S' 9 (S' 3 0 - 1) ≠ 3 := fun q => by have := (hk_bnd hkk).1 q; omega
    refine ⟨⟨fun r q1 q2 q3 => (ha'.1 r q1 q2 q3).trans (a.1 r q1 q2 q3), by have := a.2.1; have := ha'.2.1; omega, fun j hj => by rw [ha'.2.2 j (by have := a.2.1; omega), a.2.2 j hj]⟩, hE', pL_agr c ha' (pE_64 hE').2.1 (fun j q1 q2 => ?_), fun q => ?_⟩
    · rw [pop1_2] at q2
      rw [pop1_8, if_pos (by omega)]; exact wOK_hk hkk h3
    · rw [← d q, pop1_3, pop1_r (by decide) (by decide) (by decide)]
      obtain ⟨g, hg⟩ : ∃ g : Nat, S' 3 0 = g + 1 := ⟨(S' 3 0 - 1).toNat, by omega⟩
      rw [hg] at h3 c2 ⊢
      rw [show ((g : Int) + 1 - 1).toNat = g by omega, show ((g : Int) + 1).toNat = g + 1 by omega]
      rw [show (g : Int) + 1 - 1 = g by omega] at h3 c2
      exact (cv_high (by omega) h3).symm
theorem pI_stE (hL : pL S) (h7 : S 7 0 < 12) (hm : S 2 0 = S 1 0) (hc : (S 6 0 = 1 ∧ S 2 0 = cf (S 13) (S 7 0)) ∨ (S 6 0 = 0 ∧ S 2 0 = S 12 (S 7 0) ∧ pN S ∧ (0 ≤ S 11 (S 7 0) ∧ S 11 (S 7 0) ≤ 3))) : pI (stE S) := by
  have hLL := id hL
  obtain ⟨l1, l2, l3, l4⟩ := hL
  have r : ∀ r : Int, r ≠ 3 → r ≠ 4 → r ≠ 10 → r ≠ 5 → r ≠ 0 → r ≠ 14 → stE S r = S r := fun r a1 a2 a3 a4 a5 a6 => by
    unfold stE; rw [gup_ne a6, gup_ne a5, gup_ne a4, gup_ne a3, gup_ne a2, gup_ne a1]
  have r1 : stE S 1 = S 1 := r 1 (by decide) (by decide) (by decide) (by decide) (by decide) (by decide)
  have r2 : stE S 2 = S 2 := r 2 (by decide) (by decide) (by decide) (by decide) (by decide) (by decide)
  have r6 : stE S 6 = S 6 := r 6 (by decide) (by decide) (by decide) (by decide) (by decide) (by decide)
  have r7 : stE S 7 = S 7 := r 7 (by decide) (by decide) (by decide) (by decide) (by decide) (by decide)
  have r8 : stE S 8 = S 8 := r 8 (by decide) (by decide) (by decide) (by decide) (by decide) (by decide)
  have r9 : stE S 9 = S 9 := r 9 (by decide) (by decide) (by decide) (by decide) (by decide) (by decide)
  have r11 : stE S 11 = S 11 := r 11 (by decide) (by decide) (by decide) (by decide) (by decide) (by decide)
  have r12 : stE S 12 = S 12 := r 12 (by decide) (by decide) (by decide) (by decide) (by decide) (by decide)
  have r13 : stE S 13 = S 13 := r 13 (by decide) (by decide) (by decide) (by decide) (by decide) (by decide)
  have r3 : stE S 3 0 = 0 := by unfold stE; simp (disch := decide) only [gup_ne, gup_at]
  have r4 : stE S 4 0 = 0 := by unfold stE; simp (disch := decide) only [gup_ne, gup_at]
  have r10 : stE S 10 0 = 0 := by unfold stE; simp (disch := decide) only [gup_ne, gup_at]
  have r5 : stE S 5 0 = 1 := by unfold stE; simp (disch := decide) only [gup_ne, gup_at]
  have r0 : stE S 0 0 = 2 := by unfold stE; simp (disch := decide) only [gup_ne, gup_at]
  have r14 : stE S 14 0 = S 2 0 := by unfold stE; rw [gup_at]
  refine ⟨?_, Or.inr (Or.inr (Or.inl ⟨r0, by rw [r7]; exact h7, ⟨⟨0, (S 2 0).toNat, (S 2 0).toNat, r3, by rw [r2]; omega, by rw [r14]; omega, ?_⟩, ?_⟩, Or.inr r5, fun _ g hg => by rw [r3] at hg; omega, ?_⟩))⟩
  · unfold pL; rw [r2, r7, r8, r11, r12, r13]; exact hLL
  · rw [r1, r8, r9, r4, show S 1 0 = ((S 2 0).toNat : Int) by omega]
    exact eI_start (by omega)
  · rw [r4, r10, r3]; rfl
  · unfold pC pN; rw [r6, r7, r8, r11, r12, r13, r14]; exact hc
theorem pL_rows {S S' : gN} (h : pL S) (h2 : S' 2 0 = S 2 0) (h7 : S' 7 0 = S 7 0) (h8 : S' 8 = S 8) (h11 : ∀ i : Int, i < S 7 0 → S' 11 i = S 11 i) (h12 : ∀ i : Int, i < S 7 0 → S' 12 i = S 12 i) (h13 : S' 13 = S 13) : pL S' := by
  obtain ⟨l1, l2, l3, l4⟩ := h
  refine ⟨by rw [h7]; exact l1, by rw [h2]; exact l2, by rw [h2, h8]; exact l3, fun i c1 c2 => ?_⟩
  rw [h7] at c2
  have := l4 i c1 c2
  unfold lnO
  rw [h2, h8, h13, h11 i c2, h12 i c2]
  exact this
theorem pI_stD {k : Int} (hL : pL S) (h7 : S 7 0 < 12) (hm : S 2 0 = S 1 0) (hc : coO (S 8) (cf (S 13) (S 7 0)) (S 2 0)) : pI (stD S k) := by
  unfold stD
  by_cases c : k = 7
  · rw [if_pos c]
    refine ⟨pL_rows hL ?_ ?_ ?_ (fun i hi => ?_) (fun i hi => ?_) ?_, Or.inr (Or.inl ⟨?_, ?_, ?_, ?_, ?_, ?_⟩)⟩
    · simp (disch := decide) only [gup_ne]
    · simp (disch := decide) only [gup_ne]
    · simp (disch := decide) only [gup_ne]
    · simp (disch := decide) only [gup_ne]
    · rw [gup_ne (by decide), gup_same, if_neg (by omega), gup_ne (by decide)]
    · simp (disch := decide) only [gup_ne]
    · rw [gup_at]
    · simp (disch := decide) only [gup_ne]; exact h7
    · simp (disch := decide) only [gup_ne]; exact hm
    · simp (disch := decide) only [gup_ne, gup_at]
    · simp (disch := decide) only [gup_ne, gup_at]
    · unfold pN; simp (disch := decide) only [gup_ne, gup_at]; exact hc
  · rw [if_neg c]
    refine pI_stE (pL_rows hL ?_ ?_ ?_ (fun i hi => ?_) (fun i hi => ?_) ?_) ?_ ?_ (Or.inr ⟨?_, ?_, ?_, ?_⟩)
    · simp (disch := decide) only [gup_ne]
    · simp (disch := decide) only [gup_ne]
    · simp (disch := decide) only [gup_ne]
    · rw [gup_same, if_neg (by omega)]; simp (disch := decide) only [gup_ne]
    · rw [gup_ne (by decide), gup_same, if_neg (by omega), gup_ne (by decide)]
    · simp (disch := decide) only [gup_ne]
    · simp (disch := decide) only [gup_ne]; exact h7
    · simp (disch := decide) only [gup_ne]; exact hm
    · simp (disch := decide) only [gup_ne, gup_at]
    · simp (disch := decide) only [gup_ne, gup_at]
    · unfold pN; simp (disch := decide) only [gup_ne, gup_at]; exact hc
    · simp (disch := decide) only [gup_ne, gup_at]; decide
end
