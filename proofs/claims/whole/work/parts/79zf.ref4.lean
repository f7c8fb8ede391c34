/-! PLAN: the reference's expressions -/
def fQ (R : Int × Int × gN) (τ' : gN) : Prop := ¬ R.1 = 0 ∧ τ' (-6911) 0 = R.1 ∧ τ' (-6912) 0 = R.2.1
def kX (S S' : gN) : Prop := ∀ r : Int, r = 6 ∨ r = 7 ∨ r = 11 ∨ r = 12 ∨ r = 13 ∨ r = 14 → S' r = S r
def smQ (τ : gN) (b : Int → Int) (n p : Int) (S : gN) (R : Int × Int × gN) (r : Int) (τ' : gN) : Prop := gfr wSm τ τ' ∧ lo3 τ τ' ∧ ((r = 0 ∧ fQ R τ') ∨ (r = 1 ∧ ∃ p' S', p ≤ p' ∧ hT τ' b n p' ∧ p3 S' ∧ pL S' ∧ S' 4 0 = 0 ∧ ¬ ((sc b n p').1 = 10 ∨ (sc b n p').1 = 11 ∨ (21 ≤ (sc b n p').1 ∧ (sc b n p').1 ≤ 30)) ∧ rL τ' (rel S' 1) ∧ RD b n p' S' R ∧ kX S S'))
theorem sc_lt {b : Int → Int} {n p : Int} (h : 0 ≤ p ∧ p ≤ n) (hk : ¬ (sc b n p).1 = 0) : (sc b n p).2.2.1 < (sc b n p).2.2.2 := by
  have h1 := rn_in (P := blk b) (n := n) (p := p) h.2
  revert hk
  unfold sc
  generalize rn (blk b) n p = s at h1 ⊢
  by_cases c1 : n ≤ s
  · rw [if_pos c1]; intro hk; exact absurd rfl hk
  rw [if_neg c1]
  by_cases c2 : dgt b s = true
  · rw [if_pos c2]; intro _; exact rn_lt (P := dgt b) (n := n) (p := s) (by omega) c2
  rw [if_neg c2]
  by_cases c3 : ltr b s = true
  · rw [if_pos c3]; intro _; exact rn_lt (P := ltr b) (n := n) (p := s) (by omega) c3
  rw [if_neg c3]
  intro _
  have := sgl_in (b s) (if n ≤ s + 1 then 0 else b (s + 1))
  show s < s + sgl (b s) (if n ≤ s + 1 then 0 else b (s + 1))
  omega
section
variable {T : gT} {τ S : gN} {b : Int → Int} {n p m : Int} {R : Int × Int × gN}
theorem pI.m2 (h : pI S) (h0 : S 0 0 = 2) : p2 S := by
  rcases h.2 with g | g | g | g
  · have := g.1; omega
  · have := g.1; omega
  · exact g
  · have := g.1; omega
theorem pI.m3 (h : pI S) (h0 : S 0 0 = 3) : p3 S := by
  rcases h.2 with g | g | g | g
  · have := g.1; omega
  · have := g.1; omega
  · have := g.1; omega
  · exact g
theorem pI.m0 (h : pI S) (h0 : S 0 0 = 0) : p0 S := by
  rcases h.2 with g | g | g | g
  · exact g
  · have := g.1; omega
  · have := g.1; omega
  · have := g.1; omega
theorem pI.m1 (h : pI S) (h0 : S 0 0 = 1) : p1 S := by
  rcases h.2 with g | g | g | g
  · have := g.1; omega
  · exact g
  · have := g.1; omega
  · have := g.1; omega
theorem nx_kX {k v : Int} (hI : pI S) (h : (S 0 0 = 2 ∧ fc S k v = 0) ∨ (S 0 0 = 3 ∧ (k = 4 ∨ k = 10 ∨ k = 11 ∨ (21 ≤ k ∧ k ≤ 30)))) : kX S (nx S k v) := by
  intro r hr
  have hopr : ∀ k : Int, hk k → k ≠ 3 → (k = 9 ∨ pE S (S 1 0) 1) → opr S k r = S r := fun k hk1 h3 hE => by
    unfold opr
    have := (op2_rows (S := op1 S k) (d := S 4 0) hk1 h3).1 r (by omega) (by omega) (by omega) (by omega) (by omega)
    rw [this]
    unfold op1
    by_cases c : k = 9
    · rw [if_pos c, gup_ne (by omega)]
    · rw [if_neg c, rel_up _ _ S rfl, gup_ne (by omega)]
      have hb := (hk_bnd hk1).2.1 h3
      exact (rel_all hb (hE.resolve_left c) hI.1).1.1 r (by omega) (by omega) (by omega)
  unfold nx
  rcases h with h | h
  · have hf := h.2
    unfold fc at hf
    rw [if_neg (by omega), if_neg (by omega), if_pos h.1] at hf ⊢
    by_cases c3 : k = 3
    · rw [if_pos c3]; unfold opn hld; rw [gup_ne (by omega), gup_ne (by omega), gup_ne (by omega), gup_ne (by omega), gup_ne (by omega)]
    · rw [if_neg c3]
      by_cases c9 : k = 9
      · rw [if_pos c9]; exact hopr 9 (Or.inr (Or.inl (by decide))) (by decide) (Or.inl rfl)
      · rw [if_neg c9]; unfold opd wrt; rw [gup_ne (by omega), gup_ne (by omega), gup_ne (by omega), gup_ne (by omega)]
  · have hp := hI.m3 h.1
    rw [if_neg (by omega), if_neg (by omega), if_neg (by omega)]
    by_cases c4 : k = 4
    · rw [if_pos c4]; unfold cls; rw [gup_ne (by omega), gup_ne (by omega)]
      exact (rel_all (x := 1) (by decide) hp.2.2.1.1 hI.1).1.1 r (by omega) (by omega) (by omega)
    · rw [if_neg c4, if_pos (by omega)]
      exact hopr k (by unfold hk; omega) (by omega) (Or.inr hp.2.2.1.1)
theorem s_sumRead25 (h : hT τ b n p) (hI : pI S) (hM : rM τ S) (hR : RD b n p S R) : gv g_X12_sumRead_25 T τ (smQ τ b n p S R) := by
  unfold g_X12_sumRead_25
  have hz : ∀ (σ : gN) (p' : Int), hT σ b n p' → 0 ≤ σ (-6917) 0 ∧ σ (-6917) 0 ≤ n ∧ n ≤ 400 := fun σ p' g => by
    have := sc_in (b := b) g.2.2.2
    have := g.2.2.1
    have := g.1.1.2.2.2.2.2.1
    have := g.2.2.2
    omega
  refine gv_fx (fun (_ : Unit) σ => ∃ p' S', gfr wSm τ σ ∧ lo3 τ σ ∧ p ≤ p' ∧ hT σ b n p' ∧ rM σ S' ∧ pI S' ∧ RD b n p' S' R ∧ kX S S') (fun _ σ => (n + 1 - σ (-6917) 0).toNat) ⟨p, S, gfr.refl _ _, lo3.refl _, Int.le_refl _, h, hM, hI, hR, fun _ _ => rfl⟩ (by have := hz τ p h; omega) ?_
  intro rec _ σ hJ hrec
  obtain ⟨p', S', hf, hlo, hpp, hT', hM', hI', hR', hk'⟩ := hJ
  have hsc := sc_in (b := b) hT'.2.2.2
  -- what a turn comes to
  have hturn : (S' 0 0 = 2 ∨ S' 0 0 = 3) → ((S' 0 0 = 2 ∧ fc S' (sc b n p').1 (sc b n p').2.1 = 0) ∨ ¬ fc S' (sc b n p').1 (sc b n p').2.1 = 0 ∨ (S' 0 0 = 3 ∧ ((sc b n p').1 = 4 ∨ (sc b n p').1 = 10 ∨ (sc b n p').1 = 11 ∨ (21 ≤ (sc b n p').1 ∧ (sc b n p').1 ≤ 30)))) → ∀ (r : Int) (σ' : gN), tnQ σ b n p' S' r σ' → (r = 0 ∧ smQ τ b n p S R 0 σ') ∨ (r = 1 ∧ gv (rec ()) T σ' (smQ τ b n p S R)) := fun h23 hkk r σ' hq => by
    obtain ⟨q1, q2, q3⟩ := hq
    rcases q3 with ⟨rfl, g1, g2, g3⟩ | ⟨rfl, g1, g2, g3⟩
    · refine Or.inl ⟨rfl, hf.trans q1, hlo.trans q2, Or.inl ⟨rfl, ?_⟩⟩
      rw [hR'.fault hT'.2.2.2.2 g1]
      exact ⟨g1, g2, g3⟩
    · refine Or.inr ⟨rfl, ?_⟩
      have hk0 : ¬ (sc b n p').1 = 0 := fun e => by
        rw [e] at g1
        have := fc_end hI' g1
        omega
      have hlt := sc_lt hT'.2.2.2 hk0
      have hIn := pI_nx hI' g1 hsc.1 hsc.2.1
      have hkx := nx_kX (k := (sc b n p').1) (v := (sc b n p').2.1) hI' (by
        rcases hkk with a | a | a
        · exact Or.inl a
        · exact absurd g1 a
        · exact Or.inr a)
      refine hrec () σ' ⟨(sc b n p').2.2.2, _, hf.trans q1, hlo.trans q2, by omega, g2, g3, hIn, hR'.step hT'.2.2.2 g1 hk0, fun r hr => (hkx r hr).trans (hk' r hr)⟩ ?_
      have a1 := g2.2.2.1
      have a2 := hT'.2.2.1
      have a3 := sc_in (b := b) g2.2.2.2
      have a4 := hz σ' _ g2
      omega
  obtain ⟨mL, mE, mm⟩ := id hM'
  unfold gB_X12_sumRead_25
  refine gv_get ?_
  rcases mm with ⟨m0, m37, m38⟩ | ⟨m0, m37⟩
  · rw [m37]
    refine gv_cz (by decide) (fun _ => ?_) (fun g => absurd (by decide) g)
    unfold g_X12_sumRead_46
    refine gv_get ?_
    rw [m37]
    refine gv_cz (by decide) (fun g => absurd g (by decide)) (fun _ => gv_call (s_leafRead hT' hI'.1 (hI'.m2 m0) hM') (fun r σ' hq => ?_))
    have hres := hturn (Or.inl m0) (by
      by_cases c : fc S' (sc b n p').1 (sc b n p').2.1 = 0
      · exact Or.inl ⟨m0, c⟩
      · exact Or.inr (Or.inl c)) r σ' hq
    rcases hres with ⟨rfl, g⟩ | ⟨rfl, g⟩
    · exact gv_cz (by decide) (fun _ => gv_ret g) (fun c => absurd rfl c)
    · exact gv_cz (by decide) (fun c => absurd c (by decide)) (fun _ => g)
  · rw [m37]
    have hp3 := hI'.m3 m0
    have hE := hp3.2.2.1.1
    have h64 := pE_64 hE
    have h46 : (0 < S' 4 0 ∨ (sc b n p').1 = 10 ∨ (sc b n p').1 = 11 ∨ (21 ≤ (sc b n p').1 ∧ (sc b n p').1 ≤ 30)) → gv (g_X12_sumRead_46 rec) T σ (smQ τ b n p S R) := fun hop => by
      unfold g_X12_sumRead_46
      refine gv_get ?_
      rw [m37]
      refine gv_cz (by decide) (fun _ => gv_call (s_signs hT' hI'.1 hp3 hM' hop) (fun r σ' hq => ?_)) (fun g => absurd rfl g)
      have hres := hturn (Or.inr m0) (by
        by_cases c : fc S' (sc b n p').1 (sc b n p').2.1 = 0
        · refine Or.inr (Or.inr ⟨m0, ?_⟩)
          unfold fc at c
          rw [if_neg (by omega), if_neg (by omega), if_neg (by omega)] at c
          by_cases c4 : (sc b n p').1 = 4
          · exact Or.inl c4
          · rw [if_neg c4] at c
            by_cases co : (sc b n p').1 = 10 ∨ (sc b n p').1 = 11 ∨ (21 ≤ (sc b n p').1 ∧ (sc b n p').1 ≤ 30)
            · exact Or.inr co
            · rw [if_neg (by omega), if_neg co, if_pos (by omega)] at c
              omega
        · exact Or.inr (Or.inl c)) r σ' hq
      rcases hres with ⟨rfl, g⟩ | ⟨rfl, g⟩
      · exact gv_cz (by decide) (fun c => absurd rfl c) (fun _ => gv_ret g)
      · exact gv_cz (by decide) (fun _ => g) (fun c => absurd (by decide) c)
    refine gv_cz (by decide) (fun g => absurd rfl g) (fun _ => gv_get ?_)
    rw [mE.2.2.1]
    refine gv_cz ⟨by omega, by omega⟩ (fun cd => h46 (Or.inl cd)) (fun cd => gv_rd (d_X12_signMet hT'.2.1) ?_)
    by_cases co : (sc b n p').1 = 10 ∨ (sc b n p').1 = 11 ∨ (21 ≤ (sc b n p').1 ∧ (sc b n p').1 ≤ 30)
    · rw [if_pos co]
      have hsg : 3 ≤ sg (sc b n p').1 ∧ sg (sc b n p').1 ≤ 14 := by
        unfold sg
        repeat' split
        all_goals omega
      exact gv_cz ⟨by omega, by omega⟩ (fun g => by omega) (fun _ => h46 (Or.inr co))
    · rw [if_neg co]
      refine gv_cz (by decide) (fun _ => gv_call (s_bind mL mE hE (by decide)) (fun _ σ' hb => gv_ret ?_)) (fun g => absurd (Int.le_refl 0) g)
      obtain ⟨f1, lo1, l1, r1⟩ := hb
      exact ⟨hf.trans (f1.mono (by decide)), hlo.trans lo1, Or.inr ⟨rfl, p', S', hpp, hT'.fr f1 (by decide), hp3, hI'.1, by omega, co, l1, hR', hk'⟩⟩
theorem s_sumRead (h : hT τ b n p) (hI : pI S) (hL : rL τ S) (hR : RD b n p S R) (h0 : S 0 0 = 2) (h3 : S 3 0 = 0) (h4 : S 4 0 = 0) (h5 : S 5 0 = 1) (h14 : S 14 0 = S 2 0) : gv g_X12_sumRead T τ (smQ τ b n p S R) := by
  unfold g_X12_sumRead
  refine gv_put (gv_put (gv_put (gv_put (gv_put ?_))))
  generalize hσ : gup (gup (gup (gup (gup τ (-6933) 0 0) (-6934) 0 0) (-6935) 0 0) (-6937) 0 1) (-6938) 0 1 = σ
  have hf : gfr [-6933, -6934, -6935, -6937, -6938] τ σ := by rw [← hσ]; exact (((((gfr.refl _ _).up (by decide)).up (by decide)).up (by decide)).up (by decide)).up (by decide)
  refine (s_sumRead25 (h.fr hf (by decide)) hI ⟨hL.fr hf (by decide), ⟨?_, fun i hi => by omega, ?_, ?_, fun j hj => ?_⟩, Or.inl ⟨h0, ?_, ?_⟩⟩ hR).mono (fun r τ' hq => ⟨(hf.mono (by decide)).trans hq.1, (hf.lo3 (by decide)).trans hq.2.1, hq.2.2⟩)
  · rw [h3, ← hσ]; simp (disch := decide) only [gup_ne, gup_at]
  · rw [h4, ← hσ]; simp (disch := decide) only [gup_ne, gup_at]
  · rw [h14, Int.sub_self, ← hσ]; simp (disch := decide) only [gup_ne, gup_at]; rfl
  · rw [h14, Int.sub_self] at hj; exact absurd hj (Nat.not_lt_zero _)
  · rw [← hσ]; simp (disch := decide) only [gup_ne, gup_at]
  · rw [h5, ← hσ, gup_at]
end
