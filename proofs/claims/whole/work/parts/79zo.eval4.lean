/-! TRIAL: the reference works an expression out -/
def nmR (τ : gN) (N : Int → Int) : Prop := ∀ i : Int, 0 ≤ i → i ≤ 8 → τ 86 i = N i
theorem sn_mem {W : Int → Int} {a : Int} : ∀ (k : Nat) (x : Int), x ∈ sn W a k → a ≤ x ∧ x < a + k := by
  intro k
  induction k with
  | zero => intro x h; exact absurd h (by simp [sn])
  | succ k ih =>
    intro x h
    have h' : x ∈ (a + (k : Int)) :: (sn W a k).drop (need (W (a + k))) := h
    rcases List.mem_cons.mp h' with e | e
    · omega
    · have := ih x (List.mem_of_mem_drop e); omega
theorem getD_map {f : Int → Int} {L : List Int} {i : Nat} (h : i < L.length) : (L.map f).getD i 0 = f (L.getD i 0) := by
  rw [List.getD_eq_getElem?_getD, List.getD_eq_getElem?_getD, List.getElem?_map, List.getElem?_eq_getElem h]; rfl
theorem getD_app {L B : List Int} {i : Nat} (h : i < L.length) : (L ++ B).getD i 0 = L.getD i 0 := by
  rw [List.getD_eq_getElem?_getD, List.getD_eq_getElem?_getD, List.getElem?_append_left h]
theorem getD_in {L : List Int} {i : Nat} (h : i < L.length) : L.getD i 0 ∈ L := by
  rw [List.getD_eq_getElem?_getD, List.getElem?_eq_getElem h]
  exact List.getElem_mem h
section
variable {T : gT} {ν τ : gN} {N W : Int → Int}
/-- a value, or an error more -/
def erQ (τ : gN) (o : Option Int) (r : Int) (τ' : gN) : Prop := gfr [-6941] τ τ' ∧ bdd r ∧ ((τ (-6941) 0 = 1 ∧ τ' (-6941) 0 = 1) ∨ (τ (-6941) 0 = 0 ∧ ((τ' (-6941) 0 = 0 ∧ o = some r) ∨ (τ' (-6941) 0 = 1 ∧ o = none))))
theorem erQ_same {o : Option Int} {v : Int} (h : τ (-6941) 0 = 0 ∨ τ (-6941) 0 = 1) (hv : bdd v) (ho : o = some v) : erQ τ o v τ := by
  refine ⟨gfr.refl _ _, hv, ?_⟩
  rcases h with e | e
  · exact Or.inr ⟨e, Or.inl ⟨e, ho⟩⟩
  · exact Or.inl ⟨e, e⟩
theorem s_bounded {x : Int} {o : Option Int} (h : τ (-6941) 0 = 0 ∨ τ (-6941) 0 = 1) (hx : -9000000000000000000 ≤ x ∧ x ≤ 9000000000000000000) (h1 : bdd x → o = some x) (h2 : ¬ bdd x → o = none) : gv (g_X12_bounded x) T τ (fun r τ' => erQ τ o r τ') := by
  have h29 : ∀ s : Int, (s = 1 ∧ (τ (-6941) 0 = 1 ∨ (τ (-6941) 0 = 0 ∧ ¬ bdd x))) ∨ (s = 0 ∧ τ (-6941) 0 = 0 ∧ bdd x) → gv (g_X12_bounded_29 x s) T τ (fun r τ' => erQ τ o r τ') := fun s hs => by
    unfold g_X12_bounded_29
    refine gv_ck (by omega) (gv_put (gv_get ?_))
    rw [gup_at]
    refine gv_ck (by unfold hf_inI; omega) (gv_let (gv_ret ⟨(gfr.refl _ _).up (by decide), ?_, ?_⟩))
    · rcases hs with ⟨e, _⟩ | ⟨e, _, g⟩
      · rw [if_neg (by omega)]; unfold bdd mxv; omega
      · rw [if_pos e]; exact g
    · rw [gup_at]
      rcases hs with ⟨e, g | g⟩ | ⟨e, g, g'⟩
      · exact Or.inl ⟨g, e⟩
      · exact Or.inr ⟨g.1, Or.inr ⟨e, h2 g.2⟩⟩
      · exact Or.inr ⟨g, Or.inl ⟨e, by rw [if_pos e]; exact h1 g'⟩⟩
  unfold g_X12_bounded
  refine gv_get (gv_cz (by omega) (fun c => h29 1 (Or.inl ⟨rfl, Or.inl (by omega)⟩)) (fun c => gv_cl ⟨⟨by omega, by omega⟩, ⟨by omega, by omega⟩⟩ (fun c1 => h29 1 (Or.inl ⟨rfl, Or.inr ⟨by omega, by unfold bdd mxv; omega⟩⟩)) (fun c1 => gv_cl ⟨⟨by omega, by omega⟩, ⟨by omega, by omega⟩⟩ (fun c2 => h29 0 (Or.inr ⟨rfl, by omega, by unfold bdd mxv; omega⟩)) (fun c2 => h29 1 (Or.inl ⟨rfl, Or.inr ⟨by omega, by unfold bdd mxv; omega⟩⟩)))))
theorem s_times {l r : Int} (h : τ (-6941) 0 = 0 ∨ τ (-6941) 0 = 1) (hl : bdd l) (hr : bdd r) : gv (g_X12_times l r) T τ (fun v τ' => erQ τ (opv 29 l r) v τ') := by
  have il := bdd_L hl
  have ir := bdd_L hr
  have hl' := hl
  have hr' := hr
  unfold bdd mxv at hl' hr'
  have eo : opv 29 l r = (if l ≠ 0 ∧ mxv.tdiv (if 0 < l then l else -l) < (if 0 < r then r else -r) then none else some (l * r)) := by unfold opv; rw [if_neg (by decide), if_neg (by decide), if_pos rfl]
  have el : (if 0 ≤ l then l else -l) = (if 0 < l then l else -l) := by split <;> split <;> omega
  have er : (if 0 ≤ r then r else -r) = (if 0 < r then r else -r) := by split <;> split <;> omega
  have h69 : ∀ s : Int, (s = 1 ∧ (τ (-6941) 0 = 1 ∨ (τ (-6941) 0 = 0 ∧ opv 29 l r = none))) ∨ (s = 0 ∧ τ (-6941) 0 = 0 ∧ opv 29 l r = some (l * r)) → gv (g_X12_times_69 l r s) T τ (fun v τ' => erQ τ (opv 29 l r) v τ') := fun s hs => by
    unfold g_X12_times_69
    refine gv_ck (by omega) (gv_put (gv_get ?_))
    rw [gup_at]
    refine gv_ck (by unfold hf_inI; omega) (gv_let (gv_ret ⟨(gfr.refl _ _).up (by decide), ?_, ?_⟩))
    · rcases hs with ⟨e, _⟩ | ⟨e, _, g⟩
      · rw [if_neg (by omega)]; unfold bdd mxv; omega
      · rw [if_pos e]; exact opv_bd hl hr g
    · rw [gup_at]
      rcases hs with ⟨e, g | g⟩ | ⟨e, g, g'⟩
      · exact Or.inl ⟨g, e⟩
      · exact Or.inr ⟨g.1, Or.inr ⟨e, g.2⟩⟩
      · exact Or.inr ⟨g, Or.inl ⟨e, by rw [if_pos e]; exact g'⟩⟩
  have h49 : ∀ s : Int, (s = 0 ∧ ¬ (l ≠ 0 ∧ mxv.tdiv (if 0 < l then l else -l) < (if 0 < r then r else -r))) ∨ (s = 1 ∧ (l ≠ 0 ∧ mxv.tdiv (if 0 < l then l else -l) < (if 0 < r then r else -r))) → gv (g_X12_times_49 l r s) T τ (fun v τ' => erQ τ (opv 29 l r) v τ') := fun s hs => by
    unfold g_X12_times_49
    refine gv_get (gv_cz (by omega) (fun c => h69 1 (Or.inl ⟨rfl, Or.inl (by omega)⟩)) (fun c => gv_cz (by omega) (fun c1 => h69 0 (Or.inr ⟨rfl, by omega, ?_⟩)) (fun c1 => h69 1 (Or.inl ⟨rfl, Or.inr ⟨by omega, ?_⟩⟩))))
    · rcases hs with ⟨_, g⟩ | ⟨e, _⟩
      · rw [eo, if_neg g]
      · omega
    · rcases hs with ⟨e, _⟩ | ⟨_, g⟩
      · omega
      · rw [eo, if_pos g]
  have hq : l ≠ 0 → 0 ≤ (1000000000000 : Int).tdiv (if 0 < l then l else -l) ∧ (1000000000000 : Int).tdiv (if 0 < l then l else -l) ≤ 1000000000000 := fun _ => by
    refine ⟨Int.tdiv_nonneg (by decide) (by split <;> omega), ?_⟩
    exact Int.tdiv_le_self _ (by decide)
  unfold g_X12_times
  refine gv_cl (by omega) (fun c => h49 0 (Or.inl ⟨rfl, fun g => g.1 c⟩)) (fun c => gv_cl (by omega) (fun c2 => h49 0 (Or.inl ⟨rfl, fun g => ?_⟩)) (fun c2 => gv_ck ⟨ir, by unfold hf_inL; omega⟩ (gv_let (gv_ck ⟨il, by unfold hf_inL; omega⟩ (gv_let (gv_dvl ?_ ?_))))))
  · have g2 := g.2
    have := hq c
    rw [c2, if_neg (show ¬ (0 : Int) < 0 by decide)] at g2
    unfold mxv at g2
    omega
  · rw [el]
    refine ⟨by decide, ?_, ?_⟩
    · split <;> omega
    · split <;> omega
  · rw [el, er]
    have := hq c
    refine gv_cl ⟨by split <;> omega, by omega⟩ (fun c3 => h49 0 (Or.inl ⟨rfl, fun g => ?_⟩)) (fun c3 => h49 1 (Or.inr ⟨rfl, c, ?_⟩))
    · have := g.2; unfold mxv at this; omega
    · unfold mxv; omega
theorem d_X12_compares {k l r : Int} (hk : 21 ≤ k ∧ k ≤ 26) (hl : bdd l) (hr : bdd r) : gd (g_X12_compares (k - 16) l r) T τ (cmpv k l r) := by
  have il := bdd_L hl
  have ir := bdd_L hr
  have hI : hf_inI (k - 16) := by unfold hf_inI; omega
  have e01 : ∀ (c : Prop) [Decidable c], ((if c then (0 : Int) else 1) = 0) ∨ ((if c then (0 : Int) else 1) = 1) := fun c _ => by split <;> simp
  have fin : ∀ (c d : Prop) [Decidable c] [Decidable d], (c ↔ ¬ d) → cmpv k l r = (if d then 1 else 0) → gd (gck (hf_inL l ∧ hf_inL r) (glet (if c then (0 : Int) else 1) (fun w => gck ((w = 0) ∨ (w = 1)) (gret w)))) T τ (cmpv k l r) := fun c d _ _ hcd hv => by
    refine gd_ck ⟨il, ir⟩ (gd_let (gd_ck (e01 c) ?_))
    rw [hv, ite_flip c d hcd]; exact gd_ret
  have c10 : ¬ k = 10 := by omega
  have c11 : ¬ k = 11 := by omega
  unfold g_X12_compares
  refine gd_ck hI (gd_it (fun c => ?_) (fun c21 => gd_it (fun c => ?_) (fun c22 => gd_it (fun c => ?_) (fun c23 => gd_it (fun c => ?_) (fun c24 => gd_it (fun c => ?_) (fun c25 => ?_))))))
  · exact fin _ (l < r) (by omega) (by unfold cmpv; rw [if_neg c10, if_neg c11, if_pos (by omega)])
  · exact fin _ (l ≤ r) (by omega) (by unfold cmpv; rw [if_neg c10, if_neg c11, if_neg (by omega), if_pos (by omega)])
  · exact fin _ (l = r) Iff.rfl (by unfold cmpv; rw [if_neg c10, if_neg c11, if_neg (by omega), if_neg (by omega), if_pos (by omega)])
  · exact fin _ (l ≠ r) (by omega) (by unfold cmpv; rw [if_neg c10, if_neg c11, if_neg (by omega), if_neg (by omega), if_neg (by omega), if_pos (by omega)])
  · exact fin _ (r ≤ l) (by omega) (by unfold cmpv; rw [if_neg c10, if_neg c11, if_neg (by omega), if_neg (by omega), if_neg (by omega), if_neg (by omega), if_pos (by omega)])
  · exact fin _ (r < l) (by omega) (by unfold cmpv; rw [if_neg c10, if_neg c11, if_neg (by omega), if_neg (by omega), if_neg (by omega), if_neg (by omega), if_neg (by omega)])
/-- what node i is worth -/
theorem s_worthOf {a : Int} {k : Nat} {i : Nat} (hi : (i : Int) = a + k) (ha : 0 ≤ a ∧ a + k < 64) (hn : nOl τ W i) (hwd : wdO (W i)) (hw : wf W a k) (hnd : need (W i) ≤ (sn W a k).length) (hN : nmB N) (hR : nmR τ N) (hb : ∀ j : Int, a ≤ j → j < a + k → bdd (τ 87 j)) (h01 : τ (-6941) 0 = 0 ∨ τ (-6941) 0 = 1) : gv (g_X12_worthOf i) T τ (fun r τ' => gfr [-6941] τ τ' ∧ bdd r ∧ ((τ (-6941) 0 = 1 ∧ τ' (-6941) 0 = 1) ∨ (τ (-6941) 0 = 0 ∧ ((τ' (-6941) 0 = 0 ∧ evs (W i) N ((sn W a k).map (τ 87)) = some (r :: ((sn W a k).map (τ 87)).drop (need (W i)))) ∨ (τ' (-6941) 0 = 1 ∧ evs (W i) N ((sn W a k).map (τ 87)) = none))))) := by
  obtain ⟨aN, ea⟩ : ∃ aN : Nat, a = aN := ⟨a.toNat, by omega⟩
  have hsp : sn W 0 i = sn W a k ++ sn W 0 aN := by
    have hw2 := hw
    rw [ea] at hw2
    have := sn_split (W := W) (s := aN) k hw2
    rw [show i = aN + k by omega, this, ea]
  have hmem : ∀ j : Nat, j < (sn W a k).length → a ≤ (sn W a k).getD j 0 ∧ (sn W a k).getD j 0 < a + k := fun j hj => sn_mem k _ (getD_in hj)
  have hch : ∀ j : Nat, j < (sn W a k).length → bdd (τ 87 ((sn W a k).getD j 0)) := fun j hj => by
    have := hmem j hj
    exact hb _ this.1 this.2
  have hil : ((sn W a k).map (τ 87)).length = (sn W a k).length := List.length_map _
  generalize hL : sn W a k = L at *
  generalize hw0 : W i = w at *
  obtain ⟨n1, n2, n3, n4⟩ := hn
  rw [hw0] at n1 n2 n3 n4
  have h128 : (0 : Int) ≤ i ∧ (i : Int) < 128 := by omega
  -- a value without more
  have same : ∀ v : Int, bdd v → evs w N (L.map (τ 87)) = some (v :: (L.map (τ 87)).drop (need w)) → gv (gret v) T τ (fun r τ' => gfr [-6941] τ τ' ∧ bdd r ∧ ((τ (-6941) 0 = 1 ∧ τ' (-6941) 0 = 1) ∨ (τ (-6941) 0 = 0 ∧ ((τ' (-6941) 0 = 0 ∧ evs w N (L.map (τ 87)) = some (r :: (L.map (τ 87)).drop (need w))) ∨ (τ' (-6941) 0 = 1 ∧ evs w N (L.map (τ 87)) = none))))) := fun v hv he => by
    refine gv_ret ⟨gfr.refl _ _, hv, ?_⟩
    rcases h01 with e | e
    · exact Or.inr ⟨e, Or.inl ⟨e, he⟩⟩
    · exact Or.inl ⟨e, e⟩
  unfold g_X12_worthOf
  unfold wdO at hwd
  by_cases c1 : w < 1000
  · obtain ⟨e6, e7⟩ := n1 c1
    refine gv_al h128 ?_
    rw [e6]
    refine gv_cz (by decide) (fun g => absurd rfl g) (fun _ => gv_al h128 ?_)
    rw [e7]
    refine gv_ck (by unfold hf_inI; omega) (same w (by unfold bdd mxv; omega) ?_)
    unfold evs need
    rw [if_pos c1, if_pos (Or.inl c1)]; rfl
  by_cases c2 : 1012 ≤ w ∧ w ≤ 1020
  · obtain ⟨e6, e7⟩ := n2 c2
    refine gv_al h128 ?_
    rw [e6]
    refine gv_cz (by decide) (fun _ => gv_al h128 ?_) (fun g => absurd (by decide) g)
    rw [e6]
    refine gv_cb (by decide) (fun g => absurd rfl g) (fun _ => gv_al h128 ?_)
    rw [e7]
    refine gv_al (by omega) ?_
    rw [hR _ (by omega) (by omega)]
    have hb8 := hN (w - 1012) (by omega) (by omega)
    refine same _ (by unfold bdd mxv; omega) ?_
    unfold evs need
    rw [if_neg c1, if_pos c2, if_pos (Or.inr c2)]; rfl
  by_cases c3 : w = 1009
  · obtain ⟨e6, e7, _⟩ := n3 c3
    have hn1 : need w = 1 := by unfold need; rw [if_neg (by omega), if_pos c3]
    rw [hn1] at hnd
    rw [hsp, getD_app (by omega)] at e7
    have hm0 := hmem 0 (by omega)
    have hb0 := hch 0 (by omega)
    refine gv_al h128 ?_
    rw [e6]
    refine gv_cz (by decide) (fun _ => gv_al h128 ?_) (fun g => absurd (by decide) g)
    rw [e6]
    refine gv_cb (by decide) (fun _ => gv_al h128 ?_) (fun g => absurd (by decide) g)
    rw [e7]
    refine gv_al (by omega) (gv_al h128 ?_)
    rw [e6]
    refine gv_cb (by decide) (fun g => absurd rfl g) (fun _ => gv_ck ⟨bdd_L hb0, by unfold hf_inL; omega⟩ (gv_let ?_))
    have e2 : (if ¬ τ 87 (L.getD 0 0) = 0 then (0 : Int) else 1) = if τ 87 (L.getD 0 0) = 0 then 1 else 0 := by
      by_cases c : τ 87 (L.getD 0 0) = 0
      · rw [if_neg (fun g => g c), if_pos c]
      · rw [if_pos c, if_neg c]
    rw [e2]
    refine same _ (by unfold bdd mxv; split <;> omega) ?_
    unfold evs
    rw [if_neg c1, if_neg c2, if_pos c3, hn1, getD_map (by omega)]
  · obtain ⟨e6, e7, e8⟩ := n4 (by omega)
    have hn2 : need w = 2 := by unfold need; rw [if_neg (by omega), if_neg c3]
    rw [hn2] at hnd same ⊢
    rw [hsp, getD_app (by omega)] at e7 e8
    have hm0 := hmem 0 (by omega)
    have hb0 := hch 0 (by omega)
    have hm1 := hmem 1 (by omega)
    have hb1 := hch 1 (by omega)
    have hkk : hk (w - 1000) := by unfold hk; omega
    have hsg : 3 ≤ sg (w - 1000) ∧ sg (w - 1000) ≤ 14 := by
      unfold sg
      repeat' split
      all_goals omega
    have eev : evs w N (L.map (τ 87)) = (opv (w - 1000) (τ 87 (L.getD 1 0)) (τ 87 (L.getD 0 0))).map (fun v => v :: (L.map (τ 87)).drop 2) := by
      unfold evs
      rw [if_neg c1, if_neg c2, if_neg c3, getD_map (by omega), getD_map (by omega)]
    have fin : ∀ (r : Int) (τ' : gN), erQ τ (opv (w - 1000) (τ 87 (L.getD 1 0)) (τ 87 (L.getD 0 0))) r τ' → gfr [-6941] τ τ' ∧ bdd r ∧ ((τ (-6941) 0 = 1 ∧ τ' (-6941) 0 = 1) ∨ (τ (-6941) 0 = 0 ∧ ((τ' (-6941) 0 = 0 ∧ evs w N (L.map (τ 87)) = some (r :: (L.map (τ 87)).drop 2)) ∨ (τ' (-6941) 0 = 1 ∧ evs w N (L.map (τ 87)) = none)))) := fun r τ' hq => by
      obtain ⟨g1, g2, g3⟩ := hq
      refine ⟨g1, g2, ?_⟩
      rw [eev]
      rcases g3 with g | ⟨g4, ⟨g5, g6⟩ | ⟨g5, g6⟩⟩
      · exact Or.inl g
      · exact Or.inr ⟨g4, Or.inl ⟨g5, by rw [g6]; rfl⟩⟩
      · exact Or.inr ⟨g4, Or.inr ⟨g5, by rw [g6]; rfl⟩⟩
    refine gv_al h128 ?_
    rw [e6]
    refine gv_cz (by omega) (fun _ => gv_al h128 ?_) (fun g => absurd (by omega) g)
    rw [e6]
    refine gv_cb (by omega) (fun _ => gv_al h128 ?_) (fun g => absurd (by omega) g)
    rw [e7]
    refine gv_al (by omega) (gv_al h128 ?_)
    rw [e6]
    refine gv_cb (by omega) (fun _ => gv_al h128 ?_) (fun g => absurd (by omega) g)
    rw [e8]
    refine gv_al (by omega) (gv_al h128 ?_)
    rw [e6]
    generalize τ 87 (L.getD 1 0) = x at hb1 fin eev ⊢
    generalize τ 87 (L.getD 0 0) = y at hb0 fin eev ⊢
    have b0' := hb0
    have b1' := hb1
    unfold bdd mxv at b0' b1'
    have esg : sg (w - 1000) = if w - 1000 = 3 then 0 else if w - 1000 = 9 then 2 else if w - 1000 = 10 then 4 else if w - 1000 = 11 then 3 else w - 1000 - 16 := rfl
    have same2 : ∀ v : Int, bdd v → opv (w - 1000) x y = some v → gv (gret v) T τ (fun r τ' => gfr [-6941] τ τ' ∧ bdd r ∧ ((τ (-6941) 0 = 1 ∧ τ' (-6941) 0 = 1) ∨ (τ (-6941) 0 = 0 ∧ ((τ' (-6941) 0 = 0 ∧ evs w N (L.map (τ 87)) = some (r :: (L.map (τ 87)).drop 2)) ∨ (τ' (-6941) 0 = 1 ∧ evs w N (L.map (τ 87)) = none))))) := fun v hv ho => gv_ret (fin v τ (erQ_same h01 hv ho))
    refine gv_ck (by unfold hf_inI; omega) (gv_it (fun c => ?_) (fun d3 => gv_it (fun c => ?_) (fun d4 => gv_it (fun c => ?_) (fun d11 => gv_it (fun c => ?_) (fun d12 => gv_it (fun c => ?_) (fun d13 => gv_it (fun c => ?_) (fun d14 => ?_)))))))
    · have ew : w - 1000 = 11 := by
        revert esg
        repeat' split
        all_goals omega
      have ho : opv (w - 1000) x y = some (if x ≠ 0 ∧ y ≠ 0 then 1 else 0) := by rw [opv_cmp (by omega), ew]; rfl
      refine gv_cl (by omega) (fun g1 => same2 0 (by unfold bdd mxv; omega) (by rw [ho, if_neg (by omega)])) (fun g1 => gv_cl (by omega) (fun g2 => same2 0 (by unfold bdd mxv; omega) (by rw [ho, if_neg (by omega)])) (fun g2 => same2 1 (by unfold bdd mxv; omega) (by rw [ho, if_pos ⟨g1, g2⟩])))
    · have ew : w - 1000 = 10 := by
        revert esg
        repeat' split
        all_goals omega
      have ho : opv (w - 1000) x y = some (if x ≠ 0 ∨ y ≠ 0 then 1 else 0) := by rw [opv_cmp (by omega), ew]; rfl
      refine gv_cl (by omega) (fun g1 => same2 1 (by unfold bdd mxv; omega) (by rw [ho, if_pos (Or.inl g1)])) (fun g1 => gv_cl (by omega) (fun g2 => same2 0 (by unfold bdd mxv; omega) (by rw [ho, if_neg (by omega)])) (fun g2 => same2 1 (by unfold bdd mxv; omega) (by rw [ho, if_pos (Or.inr g2)])))
    · have ew : w - 1000 = 27 := by
        revert esg
        repeat' split
        all_goals omega
      have eo : opv (w - 1000) x y = (if mxv < x + y ∨ x + y < -mxv then none else some (x + y)) := by unfold opv; rw [if_pos ew]
      exact gv_call (s_bounded (o := opv (w - 1000) x y) h01 (by omega) (fun g => by rw [eo, if_neg (by unfold bdd mxv at g; unfold mxv; omega)]) (fun g => by rw [eo, if_pos (by unfold bdd mxv at g; unfold mxv; omega)])) (fun r τ' hq => gv_ret (fin r τ' hq))
    · have ew : w - 1000 = 28 := by
        revert esg
        repeat' split
        all_goals omega
      have eo : opv (w - 1000) x y = (if mxv < x - y ∨ x - y < -mxv then none else some (x - y)) := by unfold opv; rw [if_neg (by omega), if_pos ew]
      exact gv_call (s_bounded (o := opv (w - 1000) x y) h01 (by omega) (fun g => by rw [eo, if_neg (by unfold bdd mxv at g; unfold mxv; omega)]) (fun g => by rw [eo, if_pos (by unfold bdd mxv at g; unfold mxv; omega)])) (fun r τ' hq => gv_ret (fin r τ' hq))
    · have ew : w - 1000 = 29 := by
        revert esg
        repeat' split
        all_goals omega
      exact gv_call (s_times h01 hb1 hb0) (fun r τ' hq => gv_ret (fin r τ' (by rw [ew]; exact hq)))
    · have ew : w - 1000 = 30 := by
        revert esg
        repeat' split
        all_goals omega
      have eo : opv (w - 1000) x y = (if y = 0 then none else some (x.tdiv y)) := by rw [ew]; unfold opv; rw [if_neg (by decide), if_neg (by decide), if_neg (by decide), if_pos rfl]
      have h240 : ∀ s : Int, (s = 1 ∧ (τ (-6941) 0 = 1 ∨ (τ (-6941) 0 = 0 ∧ y = 0))) ∨ (s = 0 ∧ τ (-6941) 0 = 0 ∧ y ≠ 0) → gv (g_X12_worthOf_240 x y s) T τ (fun r τ' => gfr [-6941] τ τ' ∧ bdd r ∧ ((τ (-6941) 0 = 1 ∧ τ' (-6941) 0 = 1) ∨ (τ (-6941) 0 = 0 ∧ ((τ' (-6941) 0 = 0 ∧ evs w N (L.map (τ 87)) = some (r :: (L.map (τ 87)).drop 2)) ∨ (τ' (-6941) 0 = 1 ∧ evs w N (L.map (τ 87)) = none))))) := fun s hs => by
        unfold g_X12_worthOf_240
        refine gv_ck (by omega) (gv_put (gv_get ?_))
        rw [gup_at]
        refine gv_cz (by omega) (fun cs => gv_dvl ⟨by omega, by omega, by omega⟩ (gv_ret (fin _ _ ⟨(gfr.refl _ _).up (by decide), tdiv_bd hb1 (by omega), Or.inr ⟨by omega, Or.inl ⟨by rw [gup_at]; exact cs, by rw [eo, if_neg (by omega)]⟩⟩⟩))) (fun cs => gv_ret (fin _ _ ⟨(gfr.refl _ _).up (by decide), by unfold bdd mxv; omega, ?_⟩))
        rw [gup_at]
        rcases hs with ⟨e, g | g⟩ | ⟨e, _⟩
        · exact Or.inl ⟨g, e⟩
        · exact Or.inr ⟨g.1, Or.inr ⟨e, by rw [eo, if_pos g.2]⟩⟩
        · omega
      exact gv_get (gv_cz (by omega) (fun g1 => h240 1 (Or.inl ⟨rfl, Or.inl (by omega)⟩)) (fun g1 => gv_cl (by omega) (fun g2 => h240 0 (Or.inr ⟨rfl, by omega, g2⟩)) (fun g2 => h240 1 (Or.inl ⟨rfl, Or.inr ⟨by omega, by omega⟩⟩))))
    · have ew : 21 ≤ w - 1000 ∧ w - 1000 ≤ 26 := by
        revert esg
        repeat' split
        all_goals omega
      have es16 : sg (w - 1000) = w - 1000 - 16 := by rw [esg, if_neg (by omega), if_neg (by omega), if_neg (by omega), if_neg (by omega)]
      have hc01 := cmpv_01 (w - 1000) x y
      refine gv_al h128 ?_
      rw [e6, es16]
      refine gv_rd (d_X12_compares ew hb1 hb0) (gv_ck (by unfold hf_inI; omega) (gv_let ?_))
      have e2 : (if cmpv (w - 1000) x y = 0 then (0 : Int) else 1) = cmpv (w - 1000) x y := by rcases hc01 with e | e <;> rw [e] <;> rfl
      rw [e2]
      exact same2 _ (by unfold bdd mxv; omega) (opv_cmp (by omega))
/-- the reference's answer -/
theorem s_sumOf {a c : Int} (hac : 0 ≤ a ∧ a < c ∧ c ≤ 64) (hwf : wf W a (c - a).toNat) (hwd : ∀ i : Int, 0 ≤ i → i < c → wdO (W i)) (hnd : ∀ i : Nat, (i : Int) < c → nOl ν W i) (hN : nmB N) (hR : nmR ν N) : gv (g_X12_sumOf a c) T ν (fun r ν' => gfr [87, -6941] ν ν' ∧ bdd r ∧ ((evv W N a c = some r ∧ ν' (-6941) 0 = 0) ∨ (evv W N a c = none ∧ ν' (-6941) 0 = 1))) := by
  unfold g_X12_sumOf g_X12_sumOf_7
  refine gv_put ?_
  refine gv_fx (fun (x : Int) τ => ∃ k : Nat, x = a + k ∧ k ≤ (c - a).toNat ∧ gfr [87, -6941] ν τ ∧ (∀ j : Int, a ≤ j → j < a + k → bdd (τ 87 j)) ∧ ((τ (-6941) 0 = 0 ∧ es W N a k = some ((sn W a k).map (τ 87))) ∨ (τ (-6941) 0 = 1 ∧ es W N a k = none))) (fun x _ => (c - x).toNat) ⟨0, by omega, by omega, (gfr.refl _ _).up (by decide), fun j h1 h2 => by omega, Or.inl ⟨gup_at _ _ _ _, rfl⟩⟩ (by omega) ?_
  intro rec x τ hI hrec
  obtain ⟨k, rfl, hk, hf, hb, hst⟩ := hI
  unfold gB_X12_sumOf_7
  refine gv_cb ⟨⟨by omega, by omega⟩, ⟨by omega, by omega⟩⟩ (fun cx => gv_al (by omega) (gv_ret ?_)) (fun cx => ?_)
  · have ek : k = (c - a).toNat := by omega
    obtain ⟨g, hg⟩ : ∃ g, k = g + 1 := ⟨k - 1, by omega⟩
    have hev : evv W N a c = (es W N a (c - a).toNat).map (fun st => st.getD 0 0) := rfl
    refine ⟨hf, hb _ (by omega) (by omega), ?_⟩
    rw [hev, ← ek]
    rcases hst with ⟨g1, g2⟩ | ⟨g1, g2⟩
    · refine Or.inl ⟨?_, g1⟩
      rw [g2, hg]
      show some (τ 87 (a + (g : Int))) = some (τ 87 (c - 1))
      rw [show a + (g : Int) = c - 1 by omega]
    · exact Or.inr ⟨by rw [g2]; rfl, g1⟩
  · obtain ⟨i, hi⟩ : ∃ i : Nat, (i : Int) = a + k := ⟨(a + k).toNat, by omega⟩
    have hw' : wf W a k := fun j hj => hwf j (by omega)
    have hn' := hwf k (by omega)
    have hnO : nOl τ W i := by
      have := hnd i (by omega)
      unfold nOl at this ⊢
      rw [hf 76 (by decide), hf 77 (by decide), hf 78 (by decide)]; exact this
    have h01 : τ (-6941) 0 = 0 ∨ τ (-6941) 0 = 1 := by
      rcases hst with g | g
      · exact Or.inl g.1
      · exact Or.inr g.1
    rw [← hi]
    refine gv_call (s_worthOf (a := a) (k := k) hi (by omega) hnO (hwd _ (by omega) (by omega)) hw' (by rw [hi]; exact hn') hN (fun j a1 a2 => by rw [hf 86 (by decide)]; exact hR j a1 a2) hb h01) (fun r τ1 hh => gv_as (by omega) (gv_let (hrec _ _ ⟨k + 1, by omega, by omega, ?_, fun j h1 h2 => ?_, ?_⟩ (by omega))))
    · exact (hf.trans (hh.1.mono (by decide))).up (by decide)
    · rw [gup_same]
      by_cases e : j = i
      · rw [if_pos e]; exact hh.2.1
      · rw [if_neg e, hh.1 87 (by decide)]; exact hb j h1 (by omega)
    · rw [gup_ne (by decide)]
      have ees : es W N a (k + 1) = (es W N a k).bind (evs (W i) N) := by rw [hi]; rfl
      rcases hst with ⟨g1, g2⟩ | ⟨g1, g2⟩
      · have esn : (sn W a (k + 1)).map (gup τ1 87 i r 87) = r :: ((sn W a k).map (τ 87)).drop (need (W i)) := by
          show ((a + (k : Int)) :: (sn W a k).drop (need (W (a + k)))).map (gup τ1 87 i r 87) = _
          rw [List.map_cons, ← hi, gup_at, List.map_drop]
          congr 2
          apply List.map_congr_left
          intro x hx
          have := sn_mem k x hx
          rw [gup_same, if_neg (by omega), hh.1 87 (by decide)]
        rw [esn, ees, g2]
        rcases hh.2.2 with ⟨q1, q2⟩ | ⟨q1, q2 | q2⟩
        · omega
        · exact Or.inl ⟨q2.1, q2.2⟩
        · exact Or.inr ⟨q2.1, q2.2⟩
      · rcases hh.2.2 with ⟨q1, q2⟩ | ⟨q1, _⟩
        · exact Or.inr ⟨q2, by rw [ees, g2]; rfl⟩
        · omega
end
