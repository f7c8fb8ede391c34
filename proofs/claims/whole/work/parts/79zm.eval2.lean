/-! TRIAL: the class's reckoner -/
def cmpv (k l r : Int) : Int := if k = 10 then (if l ≠ 0 ∨ r ≠ 0 then 1 else 0) else if k = 11 then (if l ≠ 0 ∧ r ≠ 0 then 1 else 0) else if k = 21 then (if l < r then 1 else 0) else if k = 22 then (if l ≤ r then 1 else 0) else if k = 23 then (if l = r then 1 else 0) else if k = 24 then (if l ≠ r then 1 else 0) else if k = 25 then (if r ≤ l then 1 else 0) else (if r < l then 1 else 0)
theorem cmpv_01 (k l r : Int) : cmpv k l r = 0 ∨ cmpv k l r = 1 := by
  unfold cmpv
  repeat' split
  all_goals simp
theorem opv_cmp {k l r : Int} (h : k ≠ 27 ∧ k ≠ 28 ∧ k ≠ 29 ∧ k ≠ 30) : opv k l r = some (cmpv k l r) := by
  unfold opv cmpv
  rw [if_neg h.1, if_neg h.2.1, if_neg h.2.2.1, if_neg h.2.2.2]
theorem ite_flip (c : Prop) [Decidable c] (d : Prop) [Decidable d] (h : c ↔ ¬ d) : (if c then (0 : Int) else 1) = if d then 1 else 0 := by
  by_cases e : c
  · rw [if_pos e, if_neg (h.mp e)]
  · rw [if_neg e, if_pos (Classical.byContradiction (fun g => e (h.mpr g)))]
section
variable {T : gT} {ν τ : gN} {N : Int → Int}
theorem bdd_L {x : Int} (h : bdd x) : hf_inL x := by unfold bdd mxv at h; unfold hf_inL; omega
theorem d_X7_holds {k l r : Int} (hk : k = 10 ∨ k = 11 ∨ (21 ≤ k ∧ k ≤ 26)) (hl : bdd l) (hr : bdd r) : gd (g_X7_holds k l r) T τ (cmpv k l r) := by
  have il := bdd_L hl
  have ir := bdd_L hr
  have l2 : -9223372036854775808 ≤ l ∧ l ≤ 9223372036854775807 := il
  have r2 : -9223372036854775808 ≤ r ∧ r ≤ 9223372036854775807 := ir
  have hI : hf_inI k := by unfold hf_inI; omega
  have e01 : ∀ (c : Prop) [Decidable c], ((if c then (0 : Int) else 1) = 0) ∨ ((if c then (0 : Int) else 1) = 1) := fun c _ => by split <;> simp
  have fin : ∀ (c d : Prop) [Decidable c] [Decidable d], (c ↔ ¬ d) → cmpv k l r = (if d then 1 else 0) → gd (gck (hf_inL l ∧ hf_inL r) (glet (if c then (0 : Int) else 1) (fun w => gck ((w = 0) ∨ (w = 1)) (gret w)))) T τ (cmpv k l r) := fun c d _ _ hcd hv => by
    refine gd_ck ⟨il, ir⟩ (gd_let (gd_ck (e01 c) ?_))
    rw [hv, ite_flip c d hcd]; exact gd_ret
  unfold g_X7_holds
  refine gd_ck hI (gd_it (fun c => ?_) (fun c10 => gd_it (fun c => ?_) (fun c11 => gd_it (fun c => ?_) (fun c21 => gd_it (fun c => ?_) (fun c22 => gd_it (fun c => ?_) (fun c23 => gd_it (fun c => ?_) (fun c24 => gd_it (fun c => ?_) (fun c25 => ?_))))))))
  · have hv : cmpv k l r = (if l ≠ 0 ∨ r ≠ 0 then 1 else 0) := by unfold cmpv; rw [if_pos c]
    rw [hv]
    refine gd_cl ⟨l2, by decide⟩ (fun c1 => ?_) (fun c1 => gd_cl ⟨r2, by decide⟩ (fun c2 => ?_) (fun c2 => ?_))
    · rw [if_pos (Or.inl c1)]; exact gd_ret
    · rw [if_neg (by omega)]; exact gd_ret
    · rw [if_pos (Or.inr c2)]; exact gd_ret
  · have hv : cmpv k l r = (if l ≠ 0 ∧ r ≠ 0 then 1 else 0) := by unfold cmpv; rw [if_neg c10, if_pos c]
    rw [hv]
    refine gd_cl ⟨l2, by decide⟩ (fun c1 => ?_) (fun c1 => gd_cl ⟨r2, by decide⟩ (fun c2 => ?_) (fun c2 => ?_))
    · rw [if_neg (by omega)]; exact gd_ret
    · rw [if_neg (by omega)]; exact gd_ret
    · rw [if_pos ⟨c1, c2⟩]; exact gd_ret
  · exact fin _ (l < r) (by omega) (by unfold cmpv; rw [if_neg c10, if_neg c11, if_pos c])
  · exact fin _ (l ≤ r) (by omega) (by unfold cmpv; rw [if_neg c10, if_neg c11, if_neg c21, if_pos c])
  · exact fin _ (l = r) Iff.rfl (by unfold cmpv; rw [if_neg c10, if_neg c11, if_neg c21, if_neg c22, if_pos c])
  · exact fin _ (l ≠ r) (by omega) (by unfold cmpv; rw [if_neg c10, if_neg c11, if_neg c21, if_neg c22, if_neg c23, if_pos c])
  · exact fin _ (r ≤ l) (by omega) (by unfold cmpv; rw [if_neg c10, if_neg c11, if_neg c21, if_neg c22, if_neg c23, if_neg c24, if_pos c])
  · exact fin _ (r < l) (by omega) (by unfold cmpv; rw [if_neg c10, if_neg c11, if_neg c21, if_neg c22, if_neg c23, if_neg c24, if_neg c25])
/-- a value is pushed, or too great -/
def puQ (τ : gN) (o : Option Int) (L : List Int) (τ' : gN) : Prop := gfr [38, -3701, -3702] τ τ' ∧ ((∃ v, o = some v ∧ τ' (-3702) 0 = 0 ∧ stG τ' (v :: L)) ∨ (o = none ∧ τ' (-3702) 0 = 1))
theorem s_push2 {L : List Int} {v : Int} {o : Option Int} (h : stG τ L) (h0 : τ (-3702) 0 = 0) (hl : L.length < 64) (hv : -9000000000000000000 ≤ v ∧ v ≤ 9000000000000000000) (h1 : bdd v → o = some v) (h2 : ¬ bdd v → o = none) : gv (g_X7_push v) T τ (fun _ τ' => puQ τ o L τ') := by
  refine (s_X7_push h hl hv).mono (fun _ τ' hh => ?_)
  rcases hh with ⟨g1, g2, g3⟩ | ⟨g1, rfl⟩
  · exact ⟨g2.mono (by decide), Or.inl ⟨v, h1 g1, by rw [g2 _ (by decide)]; exact h0, g3⟩⟩
  · exact ⟨(gfr.refl _ _).up (by decide), Or.inr ⟨h2 g1, gup_at _ _ _ _⟩⟩
theorem s_mul {L : List Int} {l r : Int} (h : stG τ L) (h0 : τ (-3702) 0 = 0) (hL : L.length < 64) (hl : bdd l) (hr : bdd r) : gv (g_X7_multiply l r) T τ (fun _ τ' => puQ τ (opv 29 l r) L τ') := by
  have il := bdd_L hl
  have ir := bdd_L hr
  have hl' := hl
  have hr' := hr
  unfold bdd mxv at hl' hr'
  have eo : opv 29 l r = (if l ≠ 0 ∧ mxv.tdiv (if 0 < l then l else -l) < (if 0 < r then r else -r) then none else some (l * r)) := by unfold opv; rw [if_neg (by decide), if_neg (by decide), if_pos rfl]
  have hgo : ¬ (l ≠ 0 ∧ mxv.tdiv (if 0 < l then l else -l) < (if 0 < r then r else -r)) → gv (g_X7_multiply_30 l r) T τ (fun _ τ' => puQ τ (opv 29 l r) L τ') := fun c => by
    unfold g_X7_multiply_30
    have hb := mul_bd c
    refine gv_call (s_push2 (o := opv 29 l r) h h0 hL (by unfold bdd mxv at hb; omega) (fun _ => by rw [eo, if_neg c]) (fun g => absurd hb g)) (fun _ τ' hh => gv_ret hh)
  unfold g_X7_multiply
  refine gv_cl (by omega) (fun c => hgo (fun g => g.1 c)) (fun c => gv_ck ir (gv_let (gv_ck il (gv_let (gv_dvl ?_ ?_)))))
  · refine ⟨by decide, ?_, ?_⟩
    · split <;> omega
    · split <;> omega
  · have hq : 0 ≤ (1000000000000 : Int).tdiv (if 0 < l then l else -l) ∧ (1000000000000 : Int).tdiv (if 0 < l then l else -l) ≤ 1000000000000 := by
      refine ⟨Int.tdiv_nonneg (by decide) (by split <;> omega), ?_⟩
      exact Int.tdiv_le_self _ (by decide)
    refine gv_cl ⟨by split <;> omega, by omega⟩ (fun c2 => hgo (fun g => ?_)) (fun c2 => gv_put (gv_ret ⟨(gfr.refl _ _).up (by decide), Or.inr ⟨?_, gup_at _ _ _ _⟩⟩))
    · have := g.2; unfold mxv at this; omega
    · rw [eo, if_pos ⟨c, by unfold mxv; omega⟩]
theorem s_div {L : List Int} {l r : Int} (h : stG τ L) (h0 : τ (-3702) 0 = 0) (hL : L.length < 64) (hl : bdd l) (hr : bdd r) : gv (g_X7_divide l r) T τ (fun _ τ' => puQ τ (opv 30 l r) L τ') := by
  have hl' := hl
  have hr' := hr
  unfold bdd mxv at hl' hr'
  have eo : opv 30 l r = (if r = 0 then none else some (l.tdiv r)) := by unfold opv; rw [if_neg (by decide), if_neg (by decide), if_neg (by decide), if_pos rfl]
  unfold g_X7_divide
  refine gv_cl (by omega) (fun c => gv_dvl ⟨by omega, by omega, c⟩ ?_) (fun c => gv_put (gv_ret ⟨(gfr.refl _ _).up (by decide), Or.inr ⟨by rw [eo, if_pos (by omega)], gup_at _ _ _ _⟩⟩))
  have hb := tdiv_bd hl c
  exact gv_call (s_push2 (o := opv 30 l r) h h0 hL (by unfold bdd mxv at hb; omega) (fun _ => by rw [eo, if_neg c]) (fun g => absurd hb g)) (fun _ τ' hh => gv_ret hh)
/-- what a word leaves -/
def evQ (τ : gN) (o : Option (List Int)) (τ' : gN) : Prop := gfr [38, -3701, -3702] τ τ' ∧ ((∃ L, o = some L ∧ τ' (-3702) 0 = 0 ∧ stG τ' L) ∨ (o = none ∧ τ' (-3702) 0 = 1))
theorem s_operate {L : List Int} {k : Int} (h : stG τ L) (h0 : τ (-3702) 0 = 0) (hL : L.length ≤ 64) (hb : bdL L) (hk : (9 ≤ k ∧ k ≤ 11) ∨ (21 ≤ k ∧ k ≤ 30)) (hn : need (1000 + k) ≤ L.length) : gv (g_X7_operate k) T τ (fun _ τ' => evQ τ (evs (1000 + k) N L) τ') := by
  have hn' : (if k = 9 then 1 else 2) ≤ L.length := by
    unfold need at hn
    rw [if_neg (by omega)] at hn
    by_cases c : k = 9
    · rw [if_pos c]; rw [if_pos (by omega)] at hn; exact hn
    · rw [if_neg c]; rw [if_neg (by omega)] at hn; exact hn
  have h1 : 1 ≤ L.length := by revert hn'; split <;> omega
  have ee : evs (1000 + k) N L = if k = 9 then some ((if L.getD 0 0 = 0 then 1 else 0) :: L.drop 1) else (opv k (L.getD 1 0) (L.getD 0 0)).map (fun v => v :: L.drop 2) := by
    unfold evs
    rw [if_neg (by omega), if_neg (by omega), show 1000 + k - 1000 = k by omega]
    by_cases c : k = 9
    · rw [if_pos c, if_pos (by omega)]
    · rw [if_neg c, if_neg (by omega)]
  have b0 := bdL_get hb (i := 0) (by omega)
  unfold g_X7_operate
  refine gv_call (s_X7_pop h ⟨h1, hL⟩) (fun r τ1 hh => ?_)
  obtain ⟨rfl, f1, s1⟩ := hh
  have z1 : τ1 (-3702) 0 = 0 := by rw [f1 _ (by decide)]; exact h0
  refine gv_cb ⟨⟨by omega, by omega⟩, ⟨by omega, by omega⟩⟩ (fun c9 => ?_) (fun c9 => ?_)
  · rw [if_neg c9] at hn' ee
    have b1 := bdL_get hb (i := 1) (by omega)
    refine gv_call (s_X7_pop s1 (by rw [List.length_drop]; omega)) (fun r τ2 hh => ?_)
    obtain ⟨e2, f2, s2⟩ := hh
    have er : r = L.getD 1 0 := by
      rw [e2, List.getD_eq_getElem?_getD, List.getD_eq_getElem?_getD, List.getElem?_drop]
    rw [List.drop_drop] at s2
    rw [er]
    clear e2 er
    have z2 : τ2 (-3702) 0 = 0 := by rw [f2 _ (by decide)]; exact z1
    have f12 : gfr [38, -3701, -3702] τ τ2 := (f1.mono (by decide)).trans (f2.mono (by decide))
    have hl2 : (L.drop 2).length < 64 := by rw [List.length_drop]; omega
    generalize L.getD 0 0 = y at b0 ee ⊢
    generalize L.getD 1 0 = x at b1 ee ⊢
    have b0' := b0
    have b1' := b1
    unfold bdd mxv at b0' b1'
    have fin : ∀ τ', puQ τ2 (opv k x y) (L.drop 2) τ' → evQ τ (evs (1000 + k) N L) τ' := fun τ' hq => by
      obtain ⟨g1, g2⟩ := hq
      refine ⟨f12.trans g1, ?_⟩
      rw [ee]
      rcases g2 with ⟨v, g3, g4, g5⟩ | ⟨g3, g4⟩
      · exact Or.inl ⟨_, by rw [g3]; rfl, g4, g5⟩
      · exact Or.inr ⟨by rw [g3]; rfl, g4⟩
    refine gv_ck (by unfold hf_inI; omega) (gv_it (fun c => ?_) (fun c27 => gv_it (fun c => ?_) (fun c28 => gv_it (fun c => ?_) (fun c29 => gv_it (fun c => ?_) (fun c30 => ?_)))))
    · have eo : opv k x y = (if mxv < x + y ∨ x + y < -mxv then none else some (x + y)) := by unfold opv; rw [if_pos c]
      exact gv_call (s_push2 (o := opv k x y) s2 z2 hl2 (by omega) (fun g => by rw [eo, if_neg (by unfold bdd mxv at g; unfold mxv; omega)]) (fun g => by rw [eo, if_pos (by unfold bdd mxv at g; unfold mxv; omega)])) (fun _ τ' hq => gv_ret (fin τ' hq))
    · have eo : opv k x y = (if mxv < x - y ∨ x - y < -mxv then none else some (x - y)) := by unfold opv; rw [if_neg c27, if_pos c]
      exact gv_call (s_push2 (o := opv k x y) s2 z2 hl2 (by omega) (fun g => by rw [eo, if_neg (by unfold bdd mxv at g; unfold mxv; omega)]) (fun g => by rw [eo, if_pos (by unfold bdd mxv at g; unfold mxv; omega)])) (fun _ τ' hq => gv_ret (fin τ' hq))
    · refine gv_call (s_mul s2 z2 hl2 b1 b0) (fun _ τ' hq => gv_ret (fin τ' ?_))
      rw [c]; exact hq
    · refine gv_call (s_div s2 z2 hl2 b1 b0) (fun _ τ' hq => gv_ret (fin τ' ?_))
      rw [c]; exact hq
    · have h01 := cmpv_01 k x y
      have eo := opv_cmp (k := k) (l := x) (r := y) ⟨c27, c28, c29, c30⟩
      refine gv_rd (d_X7_holds (by omega) b1 b0) (gv_ck (by unfold hf_inI; omega) (gv_let ?_))
      have e2 : (if cmpv k x y = 0 then (0 : Int) else 1) = cmpv k x y := by rcases h01 with e | e <;> rw [e] <;> rfl
      rw [e2]
      exact gv_call (s_push2 (o := opv k x y) s2 z2 hl2 (by omega) (fun _ => eo) (fun g => absurd (by unfold bdd mxv; omega) g)) (fun _ τ' hq => gv_ret (fin τ' hq))
  · have c9' : k = 9 := by omega
    rw [if_pos c9'] at ee
    generalize L.getD 0 0 = y at b0 ee ⊢
    refine gv_ck ⟨bdd_L b0, by unfold hf_inL; omega⟩ (gv_let ?_)
    have e2 : (if ¬ y = 0 then (0 : Int) else 1) = if y = 0 then 1 else 0 := by
      by_cases c : y = 0
      · rw [if_neg (fun g => g c), if_pos c]
      · rw [if_pos c, if_neg c]
    rw [e2]
    have h01 : (if y = 0 then (1 : Int) else 0) = 0 ∨ (if y = 0 then (1 : Int) else 0) = 1 := by split <;> simp
    refine gv_call (s_push2 (o := some (if y = 0 then (1 : Int) else 0)) s1 z1 (by rw [List.length_drop]; omega) (by omega) (fun _ => rfl) (fun g => absurd (by unfold bdd mxv; omega) g)) (fun _ τ' hq => gv_ret ?_)
    obtain ⟨g1, g2⟩ := hq
    refine ⟨(f1.mono (by decide)).trans g1, ?_⟩
    rw [ee]
    rcases g2 with ⟨v, g3, g4, g5⟩ | ⟨g3, g4⟩
    · exact Or.inl ⟨_, by rw [Option.some.inj g3], g4, g5⟩
    · exact absurd g3 (by simp)
end
