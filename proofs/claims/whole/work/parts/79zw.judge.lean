/-! TRIAL: judge -/
def shr1 (x w : Int) (R : gN) : Int := if x = 0 then R 3 0 else if x = 1 then R 4 0 else if x = 2 then w * R 3 0 else if x = 3 then w * R 4 0 else if x = 4 then (if R 9 0 = 2 then w else 0) else (if R 9 0 = 3 then w else 0)
def cmb (x a s : Int) : Int := if x < 2 then max a s else a + s
/-- what the first n strengths come to -/
def jR (D S : gN) (x : Int) : Nat → Int → Prop
  | 0, a => a = 0
  | n + 1, a => ∃ a' R, jR D S x n a' ∧ rnQ D S n R ∧ a = cmb x a' (shr1 x (D 6 n) R)
theorem jR_one {D S : gN} {x : Int} : ∀ (n : Nat) (a a' : Int), jR D S x n a → jR D S x n a' → a = a' := by
  intro n
  induction n with
  | zero => intro a a' h h'; exact h.trans h'.symm
  | succ n ih =>
    intro a a' h h'
    obtain ⟨b, R, h1, h2, h3⟩ := h
    obtain ⟨b', R', h1', h2', h3'⟩ := h'
    have e := ih b b' h1 h1'
    have e2 := rnQ_one h2 h2'
    rw [h3, h3', e, e2]
theorem shr1_in {x w : Int} {R : gN} (hw : 0 ≤ w ∧ w ≤ 99) (hp : pT R) : 0 ≤ shr1 x w R ∧ shr1 x w R ≤ 20000000 := by
  have p1 := hp.1
  have p5 := hp.2.2.2.2.1
  have m1 : 0 ≤ w * R 3 0 ∧ w * R 3 0 ≤ 99 * 200 := ⟨Int.mul_nonneg hw.1 p1.1, Int.mul_le_mul hw.2 p1.2 p1.1 (by decide)⟩
  have m2 : 0 ≤ w * R 4 0 ∧ w * R 4 0 ≤ 99 * 120000 := ⟨Int.mul_nonneg hw.1 p5.1, Int.mul_le_mul hw.2 (by omega) p5.1 (by decide)⟩
  unfold shr1
  repeat' split
  all_goals omega
theorem cmb_in {x a s n : Int} (ha : 0 ≤ a ∧ a ≤ 20000000 * n) (hs : 0 ≤ s ∧ s ≤ 20000000) (hn : 0 ≤ n) : 0 ≤ cmb x a s ∧ cmb x a s ≤ 20000000 * (n + 1) := by
  unfold cmb
  split <;> omega
section
variable {T : gT} {ν τ S : gN} {x : Int}
theorem s_shareOf {w : Int} {R : gN} {t : Int} (a1 : 0 ≤ x ∧ x ≤ 5) (hw : 0 ≤ w ∧ w ≤ 99) (hC : tC τ R t) (hp : pT R) (h9 : τ (-2802) 0 = R 9 0) (q9 : 0 ≤ R 9 0 ∧ R 9 0 ≤ 3) : gd (g_X6_shareOf x w) T τ (shr1 x w R) := by
  have p1 := hp.1
  have p5 := hp.2.2.2.2.1
  have e11 := hC.2.2.2.2.1
  have e13 := hC.2.2.2.2.2.1
  unfold g_X6_shareOf shr1
  refine gd_ck (by unfold hf_inI; omega) (gd_it (fun c => gd_get ?_) (fun c0 => gd_it (fun c => gd_get ?_) (fun c1 => gd_it (fun c => gd_ck ?_ (gd_get ?_)) (fun c2 => gd_it (fun c => gd_ck ?_ (gd_get ?_)) (fun c3 => gd_it (fun c => gd_get ?_) (fun c4 => gd_get ?_))))))
  · rw [e11, if_pos c]; exact gd_ck (by unfold hf_inI; omega) gd_ret
  · rw [e13, if_neg c0, if_pos c]; exact gd_ck (by unfold hf_inI; omega) gd_ret
  · unfold hf_inI; omega
  · rw [e11, if_neg c0, if_neg c1, if_pos c]; exact gd_ck (by unfold hf_inI; omega) gd_ret
  · unfold hf_inI; omega
  · rw [e13, if_neg c0, if_neg c1, if_neg c2, if_pos c]; exact gd_ck (by unfold hf_inI; omega) gd_ret
  · rw [h9, if_neg c0, if_neg c1, if_neg c2, if_neg c3, if_pos c]
    refine gd_cb ⟨⟨by omega, by omega⟩, ⟨by omega, by omega⟩⟩ (fun d => ?_) (fun d => gd_ck (by unfold hf_inI; omega) ?_)
    · rw [if_neg d]; exact gd_ret
    · rw [if_pos (by omega)]; exact gd_ret
  · rw [h9, if_neg c0, if_neg c1, if_neg c2, if_neg c3, if_neg c4]
    refine gd_cb ⟨⟨by omega, by omega⟩, ⟨by omega, by omega⟩⟩ (fun d => ?_) (fun d => gd_ck (by unfold hf_inI; omega) ?_)
    · rw [if_neg d]; exact gd_ret
    · rw [if_pos (by omega)]; exact gd_ret
theorem s_judgeC (a1 : 0 ≤ x ∧ x ≤ 5) (hs : iSt ν) (hpl : ν (-104) 0 = 18 ∨ ν (-104) 0 = 23) (hR : pRw ν (ν (-104) 0) S) (hL : pL S) : gv (g_X11_judge_28 x 0 0) T ν (fun r ν' => gfr wTr ν ν' ∧ jR ν S x (ν (-200) 0 + 1).toNat r ∧ (0 ≤ r ∧ r ≤ 1000000000)) := by
  have hst := hs.1
  unfold g_X11_judge_28
  refine gv_fx (fun (s : Int × Int) τ => ∃ n : Nat, s.2 = n ∧ n ≤ ν (-200) 0 + 1 ∧ gfr wTr ν τ ∧ jR ν S x n s.1 ∧ (0 ≤ s.1 ∧ s.1 ≤ 20000000 * n)) (fun s _ => (50 - s.2).toNat) ⟨0, rfl, by omega, gfr.refl _ _, rfl, by decide, by decide⟩ (by decide) ?_
  intro rec s τ hI hrec
  obtain ⟨n, e2, hn, hf, hj, hb⟩ := hI
  have ef : ∀ a : Int, a ∉ wTr → τ a = ν a := fun a ha => hf a ha
  unfold gB_X11_judge_28
  refine gv_get ?_
  rw [e2, ef (-200) (by decide)]
  refine gv_cb ⟨⟨by omega, by omega⟩, ⟨by omega, by omega⟩⟩ (fun c => gv_ret ⟨hf, by rw [show (ν (-200) 0 + 1).toNat = n by omega]; exact hj, by omega⟩) (fun c => gv_get ?_)
  rw [ef (-104) (by decide)]
  have hR' : pRw τ (ν (-104) 0) S := pRw_fr hR (fun r hr => ef r (by
    unfold wTr
    simp only [List.mem_cons, List.not_mem_nil, or_false]; omega))
  have hD' : iSt τ := iSt_eq (hf.eq (by decide)) hs
  refine gv_call (s_run (t := (n : Int)) hpl hR' hL hD' (by omega)) (fun _ τ1 h1 => gv_al (by omega) ?_)
  obtain ⟨f1, R, hQ, hC, v2, v3⟩ := h1
  have hQν : rnQ ν S n R := rnQ_D (ef 3 (by decide)) (ef 4 (by decide)) (ef 5 (by decide)) (ef (-200) (by decide)) (ef (-204) (by decide)) (ef (-205) (by decide)) hQ
  have e6 : τ1 6 n = ν 6 n := by rw [f1 6 (by decide), ef 6 (by decide)]
  rw [e6]
  have hw := hs.2.2.1 n (by omega) (by omega)
  have hsi := shr1_in (x := x) hw hQ.2.1
  refine gv_rd (s_shareOf a1 hw hC hQ.2.1 v2 hQ.2.2.1) ?_
  have hf1 : gfr wTr ν τ1 := hf.trans f1
  have hgo : ∀ a : Int, a = cmb x s.1 (shr1 x (ν 6 n) R) → gv (g_X11_judge_95 rec x n a) T τ1 (fun r ν' => gfr wTr ν ν' ∧ jR ν S x (ν (-200) 0 + 1).toNat r ∧ (0 ≤ r ∧ r ≤ 1000000000)) := fun a ha => by
    unfold g_X11_judge_95
    have hci := cmb_in (x := x) (n := (n : Int)) hb hsi (by omega)
    refine gv_let (hrec (a, (n : Int) + 1) τ1 ⟨n + 1, by show (n : Int) + 1 = ((n + 1 : Nat) : Int); omega, by omega, hf1, ⟨s.1, R, hj, hQν, ha⟩, ?_⟩ ?_)
    · show 0 ≤ a ∧ a ≤ 20000000 * ((n + 1 : Nat) : Int)
      rw [ha]; omega
    · show (50 - ((n : Int) + 1)).toNat < (50 - s.2).toNat
      rw [e2]; omega
  refine gv_cb ⟨⟨by omega, by omega⟩, ⟨by omega, by omega⟩⟩ (fun c2 => hgo _ (by unfold cmb; rw [if_neg (by omega)])) (fun c2 => gv_ck (by unfold hf_inL; omega) (gv_let (hgo _ (by unfold cmb; rw [if_pos (by omega)]))))
theorem s_judgeR (a1 : 0 ≤ x ∧ x ≤ 5) (hs : iSt ν) (hp : rowsP ν S ∧ ν (-6919) 0 = S 7 0 ∧ pL S) (hR : ∀ t : Int, 0 ≤ t → t ≤ ν (-200) 0 → ∃ R, rnQ ν S t R) {τ0 : gN} (hf0 : gfr wTy ν τ0) : gv (g_X12_judge_34 x 0 0) T τ0 (fun r ν' => gfr wTy ν ν' ∧ jR ν S x (ν (-200) 0 + 1).toNat r) := by
  have hst := hs.1
  unfold g_X12_judge_34
  refine gv_fx (fun (s : Int × Int) τ => ∃ n : Nat, s.2 = n ∧ n ≤ ν (-200) 0 + 1 ∧ gfr wTy ν τ ∧ jR ν S x n s.1 ∧ (0 ≤ s.1 ∧ s.1 ≤ 20000000 * n)) (fun s _ => (50 - s.2).toNat) ⟨0, rfl, by omega, hf0, rfl, by decide, by decide⟩ (by decide) ?_
  intro rec s τ hI hrec
  obtain ⟨n, e2, hn, hf, hj, hb⟩ := hI
  unfold gB_X12_judge_34
  refine gv_get ?_
  rw [e2, hf (-6903) (by decide), hs.2.2.2.2.2.1]
  refine gv_cb ⟨⟨by omega, by omega⟩, ⟨by omega, by omega⟩⟩ (fun c => gv_ret ⟨hf, by rw [show (ν (-200) 0 + 1).toNat = n by omega]; exact hj⟩) (fun c => ?_)
  obtain ⟨R, hQ⟩ := hR n (by omega) (by omega)
  refine run2 hp hs (by omega) hQ hf (fun _ τ1 g1 g2 g3 g4 => ?_)
  obtain ⟨_, _, _, _, _, _, t43, _, t45, _⟩ := g2
  have hf1 : gfr wTy ν τ1 := hf.trans (g1.mono (by decide))
  have e74 : τ1 74 n = ν 6 n := by rw [hf1 74 (by decide)]; exact hs.2.2.2.2.2.2.2.1 n (by omega) (by omega)
  have hw := hs.2.2.1 n (by omega) (by omega)
  have hsi := shr1_in (x := x) hw hQ.2.1
  have q9 := hQ.2.2.1
  have p1 := hQ.2.1.1
  have p5 := hQ.2.1.2.2.2.2.1
  have hci := cmb_in (x := x) (n := (n : Int)) hb hsi (by omega)
  have h195 : ∀ a : Int, a = cmb x s.1 (shr1 x (ν 6 n) R) → gv (g_X12_judge_195 rec x a n) T τ1 (fun r ν' => gfr wTy ν ν' ∧ jR ν S x (ν (-200) 0 + 1).toNat r) := fun a ha => by
    unfold g_X12_judge_195
    refine gv_let (hrec (a, (n : Int) + 1) τ1 ⟨n + 1, by show (n : Int) + 1 = ((n + 1 : Nat) : Int); omega, by omega, hf1, ⟨s.1, R, hj, hQ, ha⟩, ?_⟩ ?_)
    · show 0 ≤ a ∧ a ≤ 20000000 * ((n + 1 : Nat) : Int)
      rw [ha]; omega
    · show (50 - ((n : Int) + 1)).toNat < (50 - s.2).toNat
      rw [e2]; omega
  have hwI : hf_inI (ν 6 n) := by unfold hf_inI; omega
  have h167 : ∀ a : Int, (x ≠ 5 ∧ a = cmb x s.1 (shr1 x (ν 6 n) R)) ∨ (x = 5 ∧ a = s.1) → gv (g_X12_judge_167 rec x a n) T τ1 (fun r ν' => gfr wTy ν ν' ∧ jR ν S x (ν (-200) 0 + 1).toNat r) := fun a ha => by
    unfold g_X12_judge_167 g_X12_judge_193
    refine gv_cb ⟨⟨by omega, by omega⟩, ⟨by omega, by omega⟩⟩ (fun d => h195 a ((ha.resolve_right (fun g => d g.1)).2)) (fun d => gv_get ?_)
    have ea := (ha.resolve_left (fun g => g.1 (by omega))).2
    have hx : x = 5 := by omega
    have hval : shr1 x (ν 6 n) R = if R 9 0 = 3 then ν 6 n else 0 := by unfold shr1; rw [if_neg (by omega), if_neg (by omega), if_neg (by omega), if_neg (by omega), if_neg (by omega)]
    rw [g3]
    refine gv_cb ⟨⟨by omega, by omega⟩, ⟨by omega, by omega⟩⟩ (fun d3 => gv_let (h195 _ ?_)) (fun d3 => gv_al (by omega) ?_)
    · rw [hval, if_neg d3, ea]; unfold cmb; rw [if_neg (by omega)]
    · rw [e74]
      refine gv_ck hwI (gv_let (h195 _ ?_))
      rw [hval, if_pos (by omega), ea]; unfold cmb; rw [if_neg (by omega)]
  have h139 : ∀ a : Int, (x < 4 ∧ a = cmb x s.1 (shr1 x (ν 6 n) R)) ∨ (4 ≤ x ∧ a = s.1) → gv (g_X12_judge_139 rec x a n) T τ1 (fun r ν' => gfr wTy ν ν' ∧ jR ν S x (ν (-200) 0 + 1).toNat r) := fun a ha => by
    unfold g_X12_judge_139 g_X12_judge_165
    refine gv_cb ⟨⟨by omega, by omega⟩, ⟨by omega, by omega⟩⟩ (fun d => h167 a ?_) (fun d => gv_get ?_)
    · rcases ha with g | g
      · exact Or.inl ⟨by omega, g.2⟩
      · exact Or.inr ⟨by omega, g.2⟩
    have ea := (ha.resolve_left (fun g => by omega)).2
    have hval : shr1 x (ν 6 n) R = if R 9 0 = 2 then ν 6 n else 0 := by unfold shr1; rw [if_neg (by omega), if_neg (by omega), if_neg (by omega), if_neg (by omega), if_pos (by omega)]
    rw [g3]
    refine gv_cb ⟨⟨by omega, by omega⟩, ⟨by omega, by omega⟩⟩ (fun d3 => gv_let (h167 _ (Or.inl ⟨by omega, ?_⟩))) (fun d3 => gv_al (by omega) ?_)
    · rw [hval, if_neg d3, ea]; unfold cmb; rw [if_neg (by omega)]
    · rw [e74]
      refine gv_ck hwI (gv_let (h167 _ (Or.inl ⟨by omega, ?_⟩)))
      rw [hval, if_pos (by omega), ea]; unfold cmb; rw [if_neg (by omega)]
  have h118 : ∀ a : Int, (x < 3 ∧ a = cmb x s.1 (shr1 x (ν 6 n) R)) ∨ (3 ≤ x ∧ a = s.1) → gv (g_X12_judge_118 rec x a n) T τ1 (fun r ν' => gfr wTy ν ν' ∧ jR ν S x (ν (-200) 0 + 1).toNat r) := fun a ha => by
    unfold g_X12_judge_118
    refine gv_cb ⟨⟨by omega, by omega⟩, ⟨by omega, by omega⟩⟩ (fun d => h139 a ?_) (fun d => gv_al (by omega) ?_)
    · rcases ha with g | g
      · exact Or.inl ⟨by omega, g.2⟩
      · exact Or.inr ⟨by omega, g.2⟩
    have ea := (ha.resolve_left (fun g => by omega)).2
    have hval : shr1 x (ν 6 n) R = ν 6 n * R 4 0 := by unfold shr1; rw [if_neg (by omega), if_neg (by omega), if_neg (by omega), if_pos (by omega)]
    rw [e74]
    refine gv_ck hwI (gv_get (gv_let (h139 _ (Or.inl ⟨by omega, ?_⟩))))
    rw [t45, hval, ea]; unfold cmb; rw [if_neg (by omega)]
  have h96 : ∀ a : Int, (x < 2 ∧ a = cmb x s.1 (shr1 x (ν 6 n) R)) ∨ (2 ≤ x ∧ a = s.1) → gv (g_X12_judge_96 rec x a n) T τ1 (fun r ν' => gfr wTy ν ν' ∧ jR ν S x (ν (-200) 0 + 1).toNat r) := fun a ha => by
    unfold g_X12_judge_96
    refine gv_cb ⟨⟨by omega, by omega⟩, ⟨by omega, by omega⟩⟩ (fun d => h118 a ?_) (fun d => gv_al (by omega) ?_)
    · rcases ha with g | g
      · exact Or.inl ⟨by omega, g.2⟩
      · exact Or.inr ⟨by omega, g.2⟩
    have ea := (ha.resolve_left (fun g => by omega)).2
    have hval : shr1 x (ν 6 n) R = ν 6 n * R 3 0 := by unfold shr1; rw [if_neg (by omega), if_neg (by omega), if_pos (by omega)]
    rw [e74]
    refine gv_ck hwI (gv_get ?_)
    rw [t43]
    refine gv_ck (by unfold hf_inI; omega) (gv_let (h118 _ (Or.inl ⟨by omega, ?_⟩)))
    rw [hval, ea]; unfold cmb; rw [if_neg (by omega)]
  have h73 : ∀ a : Int, (x = 0 ∧ a = cmb x s.1 (shr1 x (ν 6 n) R)) ∨ (x ≠ 0 ∧ a = s.1) → gv (g_X12_judge_73 rec x a n) T τ1 (fun r ν' => gfr wTy ν ν' ∧ jR ν S x (ν (-200) 0 + 1).toNat r) := fun a ha => by
    unfold g_X12_judge_73 g_X12_judge_95
    refine gv_cb ⟨⟨by omega, by omega⟩, ⟨by omega, by omega⟩⟩ (fun d => h96 a ?_) (fun d => gv_get ?_)
    · rcases ha with g | g
      · exact Or.inl ⟨by omega, g.2⟩
      · exact Or.inr ⟨by omega, g.2⟩
    have ea := (ha.resolve_left (fun g => by omega)).2
    have hval : shr1 x (ν 6 n) R = R 4 0 := by unfold shr1; rw [if_neg (by omega), if_pos (by omega)]
    have hcm : cmb x s.1 (shr1 x (ν 6 n) R) = max s.1 (R 4 0) := by rw [hval]; unfold cmb; rw [if_pos (by omega)]
    rw [t45]
    refine gv_cl (by omega) (fun d2 => h96 a (Or.inl ⟨by omega, by rw [hcm]; omega⟩)) (fun d2 => gv_get (h96 _ (Or.inl ⟨by omega, ?_⟩)))
    rw [t45, hcm]; omega
  refine gv_cz (by omega) (fun d => h73 s.1 (Or.inr ⟨d, rfl⟩)) (fun d => gv_get ?_)
  have hval : shr1 x (ν 6 n) R = R 3 0 := by unfold shr1; rw [if_pos (by omega)]
  have hcm : cmb x s.1 (shr1 x (ν 6 n) R) = max s.1 (R 3 0) := by rw [hval]; unfold cmb; rw [if_pos (by omega)]
  rw [t43]
  unfold g_X12_judge_72
  refine gv_ck (by unfold hf_inI; omega) (gv_cl (by omega) (fun d2 => h73 _ (Or.inl ⟨by omega, by rw [hcm]; omega⟩)) (fun d2 => gv_get ?_))
  rw [t43]
  exact gv_ck (by unfold hf_inI; omega) (h73 _ (Or.inl ⟨by omega, by rw [hcm]; omega⟩))
theorem c_judge (a1 : -2147483648 ≤ x ∧ x ≤ 2147483647) (hs : iSt ν) (hp : iPl ν) : gb (g_X11_judge x) (g_X12_judge x) T ν (fun r ν' => (-2 ≤ r ∧ r ≤ 1000000000) ∧ gfr wTy ν ν') := by
  have hst := hs.1
  have h106 := hp.2.2.1
  obtain ⟨hpl, S, hR, hPP⟩ := hp.pl
  have hW : gfr wTy ν (gup ν (-6902) 0 0) := (gfr.refl _ _).up (by decide)
  unfold gb g_X11_judge
  refine gv_get (gv_cz (by omega) (fun c => gv_rd (d_X11_isWithin a1 (by decide)) ?_) (fun c => gv_ret ?_))
  · by_cases c2 : 0 ≤ x ∧ x ≤ 5
    · rw [if_pos c2]
      refine gv_cz (by decide) (fun _ => ?_) (fun g => absurd (by decide) g)
      refine (s_judgeC c2 hs hpl hR hPP.2.2).mono (fun r ν1 h1 => ?_)
      obtain ⟨f1, hj, hb⟩ := h1
      have hf2 : gfr wTy ν (gup ν1 (-6902) 0 0) := (f1.mono (by decide)).up (by decide)
      unfold g_X12_judge
      refine gv_put (gv_get ?_)
      generalize gup ν1 (-6902) 0 0 = τ at hf2 ⊢
      rw [hf2 (-6918) (by decide), h106.1]
      refine gv_cz (by omega) (fun _ => gv_rd (d_X12_isIn a1 (by decide) (by decide)) ?_) (fun g => absurd c g)
      rw [if_pos c2]
      refine gv_cz (by decide) (fun _ => ?_) (fun g => absurd (by decide) g)
      refine (s_judgeR c2 hs hPP (fun t b1 b2 => ?_) hf2).mono (fun r2 ν2 h2 => ⟨jR_one _ _ _ h2.2 hj, by omega, h2.1⟩)
      obtain ⟨r0, τ0, _, _, R, hQ, _⟩ := s_run (T := T) (t := t) hpl hR hPP.2.2 hs (by omega)
      exact ⟨R, hQ⟩
    · rw [if_neg c2]
      refine gv_cz (by decide) (fun g => absurd rfl g) (fun _ => gv_ret ?_)
      unfold g_X12_judge
      refine gv_put (gv_get ?_)
      generalize gup ν (-6902) 0 0 = τ at hW ⊢
      rw [hW (-6918) (by decide), h106.1]
      refine gv_cz (by omega) (fun _ => gv_rd (d_X12_isIn a1 (by decide) (by decide)) ?_) (fun g => absurd c g)
      rw [if_neg c2]
      exact gv_cz (by decide) (fun g => absurd rfl g) (fun _ => gv_ret ⟨rfl, by decide, hW⟩)
  · unfold g_X12_judge
    refine gv_put (gv_get ?_)
    generalize gup ν (-6902) 0 0 = τ at hW ⊢
    rw [hW (-6918) (by decide), h106.1]
    exact gv_cz (by omega) (fun g => absurd g c) (fun _ => gv_ret ⟨rfl, by decide, hW⟩)
end
