/-! LIES: the table of the class -/
section
variable {T : gT} {ν : gN}
theorem d_X2_fewestFrom {y : Nat} {P : Int} (hy : y < 65536) (hP : ν (-5100) 0 = P) (hg : gis T 22 P) (hlen : y < (T.2 P.toNat).2) (ht : ∀ z : Nat, z < y → ν P z = lf z) : gd (g_X2_fewestFrom (y : Int)) T ν (lf y) := by
  have h88 := blw_le hy (Nat.le_refl 8)
  have ea : hf_and (hf_or (y : Int) (hf_shr (y : Int) 1)) 21845 = ((blw y 8 : Nat) : Int) := by
    rw [hf_shr1_nat (by omega), hf_or_nat hy (by omega)]
    have h1 : y ||| (y / 2) < 2 ^ 16 := Nat.or_lt_two_pow hy (by omega)
    rw [show (21845 : Int) = ((21845 : Nat) : Int) from rfl, hf_and_nat (by omega) (by decide), alive_nat hy]
  have hc8 : cnN (alv y) 8 ≤ 8 := by
    have : ∀ m : Nat, cnN (alv y) m ≤ m := by
      intro m
      induction m with
      | zero => exact Nat.le_refl _
      | succ m ih => have := alv01 y m; show cnN (alv y) m + alv y m ≤ m + 1; omega
    exact this 8
  unfold g_X2_fewestFrom
  refine gd_let ?_
  rw [ea]
  refine gd_rd (d_J6_bitCount _) ?_
  rw [bc_alive]
  refine gd_cb ⟨⟨by omega, by omega⟩, ⟨by omega, by omega⟩⟩ (fun c => ?_) (fun c => ?_)
  · rw [lf_two (by omega)]
    unfold g_X2_fewestFrom_26
    refine gd_fx (fun (q : Int × Int) => ∃ s : Nat, q.2 = s ∧ 1 ≤ s ∧ s ≤ 8 ∧ q.1 = gmn (lfc y) 1 100 (s - 1)) (fun q => 10 - q.2.toNat) ⟨1, rfl, by omega, by omega, rfl⟩ (by show 10 - (1 : Int).toNat < 100000; omega) ?_
    intro rec q hI hrec
    obtain ⟨s, e2, hs1, hs, e1⟩ := hI
    have hq1 : 0 ≤ q.1 ∧ q.1 ≤ 100 := by
      rw [e1]
      refine ⟨le_gmn _ (by decide) (fun k hk => ?_), gmn_init _ _ _ _⟩
      unfold lfc
      split
      · have a1 := lf_24 (y := y - blw y ((1 : Int) + k).toNat) (by omega)
        omega
      · omega
    unfold gB_X2_fewestFrom_26 g_X2_fewestFrom_93
    rw [e2]
    refine gd_cb ⟨⟨by omega, by omega⟩, ⟨by omega, by omega⟩⟩ (fun c2 => ?_) (fun c2 => gd_let (gd_let ?_))
    · rw [e1, show s - 1 = 7 by omega]; exact gd_ret
    · have hbs := blw_le hy (show s ≤ 8 by omega)
      have eb : hf_and ((blw y 8 : Nat) : Int) (hf_shl 1 (2 * (s : Int)) - 1) = ((blw y s : Nat) : Int) := by
        rw [hf_and_mask (by omega) (by omega)]
        unfold blw
        rw [vlN_mod (by decide) (by omega) (fun t _ => by have := alv01 y t; omega)]
      rw [eb]
      have eab : ((blw y 8 : Nat) : Int) - ((blw y s : Nat) : Int) = ((abv y s : Nat) : Int) := by unfold abv; omega
      have hab : abv y s = blw y 8 - blw y s := rfl
      rw [eab]
      have hz : 10 - ((s : Int) + 1).toNat < 10 - q.2.toNat := by rw [e2]; omega
      have elfc : lfc y (s : Int) = if 0 < blw y s ∧ 0 < abv y s ∧ 0 < y then 1 + max (lf (y - blw y s)) (lf (y - abv y s)) else 101 := by unfold lfc; rw [Int.toNat_natCast]
      have enext : gmn (lfc y) 1 100 (s + 1 - 1) = min q.1 (lfc y (s : Int)) := by
        rw [show s + 1 - 1 = (s - 1) + 1 by omega]
        show min (gmn (lfc y) 1 100 (s - 1)) (lfc y (1 + ((s - 1 : Nat) : Int))) = _
        rw [← e1, show (1 : Int) + ((s - 1 : Nat) : Int) = (s : Int) by omega]
      have hsk : ¬ (0 < blw y s ∧ 0 < abv y s) → gd (rec (q.1, (s : Int) + 1)) T ν (gmn (lfc y) 1 100 7) := fun hn => by
        refine hrec _ ⟨s + 1, by show (s : Int) + 1 = _; omega, by omega, by omega, ?_⟩ hz
        show q.1 = _
        rw [enext, elfc, if_neg (fun h => hn ⟨h.1, h.2.1⟩)]
        omega
      refine gd_cz ⟨by omega, by omega⟩ (fun c3 => gd_let (hsk (by omega))) (fun c3 => gd_cz ⟨by omega, by omega⟩ (fun c4 => gd_let (hsk (by omega))) (fun c4 => gd_get ?_))
      rw [hP]
      have h1 : ((y : Int) - ((blw y s : Nat) : Int)) = ((y - blw y s : Nat) : Int) := by omega
      have h2 : ((y : Int) - ((abv y s : Nat) : Int)) = ((y - abv y s : Nat) : Int) := by omega
      have l1 := lf_24 (y := y - blw y s) (by omega)
      have l2 := lf_24 (y := y - abv y s) (by omega)
      refine gd_ald hg (by omega) (by omega) (gd_get ?_)
      rw [hP]
      refine gd_ald hg (by omega) (by omega) ?_
      rw [h1, h2, ht _ (by omega), ht _ (by omega)]
      refine gd_ck ⟨⟨by omega, by omega⟩, ⟨by omega, by omega⟩⟩ (gd_let (gd_ck ⟨⟨by omega, by omega⟩, ⟨by omega, by omega⟩⟩ (gd_let (gd_let (hrec _ ⟨s + 1, by show (s : Int) + 1 = _; omega, by omega, by omega, ?_⟩ hz)))))
      show min q.1 (max (lf (y - blw y s)) (lf (y - abv y s)) + 1) = _
      rw [enext, elfc, if_pos (by omega)]
      omega
  · rw [lf_one (by omega)]; exact gd_ret
def okLen (n : Nat) : Prop := n = 0 ∨ n = 16 ∨ n = 64 ∨ n = 256 ∨ n = 1024 ∨ n = 4096 ∨ n = 16384 ∨ n = 65536
/-- the lies' table: so many states are told -/
def iLs (T : gT) (ν : gN) : Prop := gis T 22 (ν (-5100) 0) ∧ okLen (T.2 (ν (-5100) 0).toNat).2 ∧ ((T.2 (ν (-5100) 0).toNat).2 ≠ 0 → 104 < ν (-5100) 0) ∧ (0 ≤ ν (-5101) 0 ∧ ν (-5101) 0 ≤ ((T.2 (ν (-5100) 0).toNat).2 : Int)) ∧ (∀ z : Nat, (z : Int) < ν (-5101) 0 → ν (ν (-5100) 0) z = lf z) ∧ (∀ z : Nat, ν (-5101) 0 ≤ (z : Int) → z < (T.2 (ν (-5100) 0).toNat).2 → ν (ν (-5100) 0) z = 0)
def lsp (T : gT) (ν : gN) : Nat := 2 * (65536 - (T.2 (ν (-5100) 0).toNat).2)
theorem s_X2_fewestFalls_42 {y : Nat} (h : iLs T ν) (hy : y < (T.2 (ν (-5100) 0).toNat).2) : gv (g_X2_fewestFalls_42 (y : Int)) T ν (fun r ν' => r = lf y ∧ gfr [-5101, ν (-5100) 0] ν ν' ∧ iLs T ν') := by
  have hg := h.1
  have h65 : (T.2 (ν (-5100) 0).toNat).2 ≤ 65536 := by rcases h.2.1 with e | e | e | e | e | e | e | e <;> omega
  have h104 := h.2.2.1 (by omega)
  unfold g_X2_fewestFalls_42
  refine gv_fx (fun (_ : Unit) τ => gfr [-5101, ν (-5100) 0] ν τ ∧ iLs T τ) (fun _ τ => 65536 - (τ (-5101) 0).toNat) ⟨gfr.refl _ _, h⟩ (by omega) ?_
  intro rec _ τ hI hrec
  obtain ⟨hf, hi⟩ := hI
  have eP : τ (-5100) = ν (-5100) := hf _ (by simp only [List.mem_cons, List.not_mem_nil, or_false]; omega)
  obtain ⟨i1, i2, i3, i4, i5, i6⟩ := hi
  rw [eP] at i1 i2 i3 i4 i5 i6
  unfold gB_X2_fewestFalls_42
  refine gv_get (gv_cb ⟨⟨by omega, by omega⟩, ⟨by omega, by omega⟩⟩ (fun c => gv_get ?_) (fun c => gv_get (gv_get (gv_get ?_))))
  · rw [eP]
    refine gv_ald i1 (by omega) (by omega) (gv_ret ⟨i5 y (by omega), hf, ?_⟩)
    unfold iLs
    rw [eP]
    exact ⟨i1, i2, i3, i4, i5, i6⟩
  · obtain ⟨q, hq⟩ : ∃ q : Nat, τ (-5101) 0 = q := ⟨(τ (-5101) 0).toNat, by omega⟩
    rw [eP, hq]
    have hq65 : q < (T.2 (ν (-5100) 0).toNat).2 := by omega
    have l1 := lf_24 (y := q) (by omega)
    refine gv_rd (d_X2_fewestFrom (by omega) (by rw [eP]) i1 hq65 (fun z hz => i5 z (by omega))) ?_
    rw [i2b_ok (by omega)]
    refine gv_ck ⟨by omega, by omega⟩ (gv_asd i1 h104 (by omega) (by omega) (gv_get (gv_put (hrec _ _ ⟨(hf.up (by simp)).up (by simp), ?_⟩ ?_))))
    · have e1 : gup (gup τ (ν (-5100) 0) q (lf q)) (-5101) 0 (gup τ (ν (-5100) 0) q (lf q) (-5101) 0 + 1) (-5100) = ν (-5100) := by
        rw [gup_ne (by decide), gup_ne (by omega), eP]
      have e2 : gup (gup τ (ν (-5100) 0) q (lf q)) (-5101) 0 (gup τ (ν (-5100) 0) q (lf q) (-5101) 0 + 1) (-5101) 0 = (q : Int) + 1 := by
        rw [gup_at, gup_ne (by omega), hq]
      unfold iLs
      rw [e1, e2]
      refine ⟨i1, i2, i3, by omega, fun z hz => ?_, fun z hz hz2 => ?_⟩
      · rw [gup_ne (by omega), gup_same]
        by_cases e : z = q
        · rw [if_pos (by rw [e]), e]
        · rw [if_neg (by omega)]; exact i5 z (by omega)
      · rw [gup_ne (by omega), gup_same, if_neg (by omega)]; exact i6 z (by omega) hz2
    · show 65536 - (gup (gup τ (ν (-5100) 0) q (lf q)) (-5101) 0 (gup τ (ν (-5100) 0) q (lf q) (-5101) 0 + 1) (-5101) 0).toNat < 65536 - (τ (-5101) 0).toNat
      rw [gup_at, gup_ne (by omega), hq]
      omega
theorem lie_num {n l : Int} (hn : 1 ≤ n ∧ n ≤ 7) (hl : 0 ≤ l ∧ l ≤ 2) : ∃ S : Nat, hf_shl 1 (2 * (n + 1)) = (S : Int) ∧ okLen S ∧ 16 ≤ S ∧ (l + 1) * hf_and 21845 ((S : Int) - 1) = ((cv (l + 2).toNat n.toNat 0 : Nat) : Int) ∧ cv (l + 2).toNat n.toNat 0 < S := by
  have h1 : n = 1 ∨ n = 2 ∨ n = 3 ∨ n = 4 ∨ n = 5 ∨ n = 6 ∨ n = 7 := by omega
  have h2 : l = 0 ∨ l = 1 ∨ l = 2 := by omega
  unfold okLen
  rcases h1 with rfl | rfl | rfl | rfl | rfl | rfl | rfl
  · refine ⟨16, by decide, by decide, by decide, ?_⟩
    rcases h2 with rfl | rfl | rfl <;> decide
  · refine ⟨64, by decide, by decide, by decide, ?_⟩
    rcases h2 with rfl | rfl | rfl <;> decide
  · refine ⟨256, by decide, by decide, by decide, ?_⟩
    rcases h2 with rfl | rfl | rfl <;> decide
  · refine ⟨1024, by decide, by decide, by decide, ?_⟩
    rcases h2 with rfl | rfl | rfl <;> decide
  · refine ⟨4096, by decide, by decide, by decide, ?_⟩
    rcases h2 with rfl | rfl | rfl <;> decide
  · refine ⟨16384, by decide, by decide, by decide, ?_⟩
    rcases h2 with rfl | rfl | rfl <;> decide
  · refine ⟨65536, by decide, by decide, by decide, ?_⟩
    rcases h2 with rfl | rfl | rfl <;> decide
theorem okLen_two {a b : Nat} (ha : okLen a) (hb : okLen b) (h : a < b) : 2 * a ≤ b ∧ b ≤ 65536 := by
  rcases ha with e | e | e | e | e | e | e | e <;> rcases hb with e' | e' | e' | e' | e' | e' | e' | e' <;> omega
/-- what the class's lies comes to -/
def lsQ (T : gT) (ν : gN) (v r : Int) (T' : gT) (ν' : gN) : Prop := r = v ∧ gext T T' ∧ T'.1 ≤ T.1 + 1 ∧ iLs T' ν' ∧ gsl T' + lsp T' ν' ≤ gsl T + lsp T ν ∧ (∀ b : Int, b ≤ T.1 → b ∉ [-5100, -5101] → ¬ (104 < b ∧ b = ν (-5100) 0) → ν' b = ν b) ∧ (ν' (-5100) 0 = ν (-5100) 0 ∨ (T.1 : Int) < ν' (-5100) 0)
theorem s_X11_lies {n l : Int} (h104 : 104 ≤ T.1) (h : iLs T ν) (hc : T.1 + 1 ≤ hf_cc) (hs : gsl T + lsp T ν ≤ hf_cs) (hn : -2147483648 ≤ n ∧ n ≤ 2147483647) (hl : -2147483648 ≤ l ∧ l ≤ 2147483647) : gw (g_X11_lies n l) T ν (lsQ T ν (if (1 ≤ n ∧ n ≤ 7) ∧ (0 ≤ l ∧ l ≤ 2) then lf (cv (l + 2).toNat n.toNat 0) else -1)) := by
  have hno : ¬ ((1 ≤ n ∧ n ≤ 7) ∧ (0 ≤ l ∧ l ≤ 2)) → gw (gret (-1)) T ν (lsQ T ν (if (1 ≤ n ∧ n ≤ 7) ∧ (0 ≤ l ∧ l ≤ 2) then lf (cv (l + 2).toNat n.toNat 0) else -1)) := fun hcc => by
    rw [if_neg hcc]
    exact gw_ret ⟨rfl, gext.refl _, Nat.le_succ _, h, Nat.le_refl _, fun b _ _ _ => rfl, Or.inl rfl⟩
  unfold g_X11_lies
  refine gw_cb ⟨hn, by decide⟩ (fun c => hno (by omega)) (fun c1 => gw_cb ⟨hn, by decide⟩ (fun c => hno (by omega)) (fun c2 => gw_rd (d_X11_isWithin hl (by decide)) ?_))
  by_cases c3 : 0 ≤ l ∧ l ≤ 2
  · rw [if_pos c3, if_pos (show (1 ≤ n ∧ n ≤ 7) ∧ (0 ≤ l ∧ l ≤ 2) by omega)]
    refine gw_cz (by decide) (fun _ => ?_) (fun h => absurd (by decide) h)
    refine gw_call (Q' := lsQ T ν (lf (cv (l + 2).toNat n.toNat 0))) ?_ (fun r T' ν' hq => gw_ret hq)
    obtain ⟨S, s1, s2, s3, s4, s5⟩ := lie_num (n := n) (l := l) (by omega) c3
    have hS : S ≤ 65536 := by rcases s2 with e | e | e | e | e | e | e | e <;> omega
    have hlen : (T.2 (ν (-5100) 0).toNat).2 ≤ 65536 := by rcases h.2.1 with e | e | e | e | e | e | e | e <;> omega
    unfold g_X2_fewestFalls g_X2_fewestFalls_29
    refine gw_let ?_
    rw [s1]
    refine gw_get (gw_and h.1 (gw_cb ⟨⟨by omega, by omega⟩, ⟨by omega, by omega⟩⟩ (fun c4 => gw_let ?_) (fun c4 => gw_get ?_)))
    · rw [s4]
      refine ((s_X2_fewestFalls_42 h (by omega)).mono (fun r ν' hq => ?_)).w
      obtain ⟨q1, q2, q3⟩ := hq
      have e5 : ν' (-5100) = ν (-5100) := q2 _ (by
        have := h.2.2.1 (by omega)
        simp only [List.mem_cons, List.not_mem_nil, or_false]; omega)
      refine ⟨q1, gext.refl _, Nat.le_succ _, q3, by unfold lsp; rw [e5]; exact Nat.le_refl _, fun b h1 h2 h3 => q2 b ?_, Or.inl (by rw [e5])⟩
      have h9 := h.2.2.1 (by omega)
      simp only [List.mem_cons, List.not_mem_nil, or_false, not_or] at h2 ⊢
      exact ⟨h2.2, fun e => h3 ⟨by omega, e⟩⟩
    · have hlt : (T.2 (ν (-5100) 0).toNat).2 < S := by omega
      have h2 := okLen_two h.2.1 s2 hlt
      have hroom : gsl T + S ≤ hf_cs := by unfold lsp at hs; omega
      have hP1 := h.1.1
      have hP2 := h.1.2.1
      have hbyte : ∀ i, i < (T.2 (ν (-5100) 0).toNat).2 → -128 ≤ ν (ν (-5100) 0) (i : Int) ∧ ν (ν (-5100) 0) (i : Int) ≤ 127 := fun i hi => by
        by_cases cc : (i : Int) < ν (-5101) 0
        · rw [h.2.2.2.2.1 i cc]
          have := lf_24 (y := i) (by omega)
          omega
        · rw [h.2.2.2.2.2 i (by omega) hi]; omega
      refine gw_call (Q' := fun r T' ν' => r = ((T.1 + 1 : Nat) : Int) ∧ T' = gnT T 22 S ∧ ν' = fun b j => if b = ((T.1 + 1 : Nat) : Int) then (if 0 ≤ j ∧ j < ((T.2 (ν (-5100) 0).toNat).2 : Int) then ν (ν (-5100) 0) j else 0) else ν b j) ?_ (fun r T' ν' hq => ?_)
      · refine ⟨_, _, _, ?_, rfl, rfl, rfl⟩
        unfold g_J7_copyOf
        rw [if_pos ⟨h.1, ⟨by omega, by omega⟩, by show ((T.2 (ν (-5100) 0).toNat).2 : Int) < (S : Int); omega, hc, by show gsl T + (S : Int).toNat ≤ hf_cs; rw [Int.toNat_natCast]; exact hroom, hbyte⟩]
        rw [Int.toNat_natCast]
      · obtain ⟨rfl, rfl, rfl⟩ := hq
        refine gw_put (gw_let ?_)
        rw [s4]
        generalize hτ : gup (fun (b j : Int) => if b = ((T.1 + 1 : Nat) : Int) then (if 0 ≤ j ∧ j < ((T.2 (ν (-5100) 0).toNat).2 : Int) then ν (ν (-5100) 0) j else 0) else ν b j) (-5100) 0 ((T.1 + 1 : Nat) : Int) = τ
        have t1 : τ (-5100) 0 = ((T.1 + 1 : Nat) : Int) := by rw [← hτ]; exact gup_at _ _ _ _
        have t2 : ∀ b : Int, b ≤ T.1 → b ≠ -5100 → τ b = ν b := fun b hb hne => by
          rw [← hτ, gup_ne hne]
          funext j
          show (if b = ((T.1 + 1 : Nat) : Int) then _ else ν b j) = ν b j
          rw [if_neg (by omega)]
        have t3 : ∀ j : Int, τ ((T.1 + 1 : Nat) : Int) j = if 0 ≤ j ∧ j < ((T.2 (ν (-5100) 0).toNat).2 : Int) then ν (ν (-5100) 0) j else 0 := fun j => by
          rw [← hτ, gup_ne (by omega)]
          show (if ((T.1 + 1 : Nat) : Int) = ((T.1 + 1 : Nat) : Int) then _ else ν _ j) = _
          rw [if_pos rfl]
        have t4 : (gnT T 22 S).2 ((T.1 + 1 : Nat) : Int).toNat = (22, S) := by
          show (if ((T.1 + 1 : Nat) : Int).toNat = T.1 + 1 then (22, S) else _) = (22, S)
          rw [if_pos (Int.toNat_natCast _)]
        have t5 : τ (-5101) = ν (-5101) := t2 _ (by omega) (by decide)
        have hi : iLs (gnT T 22 S) τ := by
          unfold iLs
          rw [t1, t4, t5]
          refine ⟨⟨by omega, by show ((T.1 + 1 : Nat) : Int).toNat ≤ T.1 + 1; omega, by rw [t4]⟩, s2, fun _ => by omega, ⟨h.2.2.2.1.1, by show ν (-5101) 0 ≤ (S : Int); have := h.2.2.2.1.2; omega⟩, fun z hz => ?_, fun z hz hz2 => ?_⟩
          · rw [t3, if_pos (by have := h.2.2.2.1.2; omega)]; exact h.2.2.2.2.1 z hz
          · rw [t3]
            by_cases cc : 0 ≤ (z : Int) ∧ (z : Int) < ((T.2 (ν (-5100) 0).toNat).2 : Int)
            · rw [if_pos cc]; exact h.2.2.2.2.2 z hz (by omega)
            · rw [if_neg cc]
        refine ((s_X2_fewestFalls_42 hi (by rw [t1, t4]; exact s5)).mono (fun r ν' hq => ?_)).w
        obtain ⟨q1, q2, q3⟩ := hq
        rw [t1] at q2
        have e5 : ν' (-5100) = τ (-5100) := q2 _ (by simp only [List.mem_cons, List.not_mem_nil, or_false]; omega)
        refine ⟨q1, gext.new _ _ _, Nat.le_refl _, q3, ?_, fun b h1 h3 h4 => ?_, Or.inr (by rw [e5, t1]; omega)⟩
        · unfold lsp
          rw [e5, t1, t4, gsl_new]
          show gsl T + S + 2 * (65536 - S) ≤ gsl T + 2 * (65536 - (T.2 (ν (-5100) 0).toNat).2)
          omega
        · simp only [List.mem_cons, List.not_mem_nil, or_false, not_or] at h3
          rw [q2 b (by simp only [List.mem_cons, List.not_mem_nil, or_false]; omega)]
          exact t2 b h1 h3.1
  · rw [if_neg c3]
    exact gw_cz (by decide) (fun h => absurd rfl h) (fun _ => hno (by omega))
end
