/-! LIES: the tables -/
/-- the reference's least, by the credits -/
def lfr (y : Nat) (s : Int) : Int := if 0 < blw y s.toNat ∧ 0 < abv y s.toNat then 1 + max (lf (y - blw y s.toNat)) (lf (y - abv y s.toNat)) else 1000001
theorem lfr_lf {y n : Nat} (hy : y < 65536) (hn : n ≤ 7) (h2 : ¬ cnN (alv y) 8 ≤ 1) (hz : ∀ t, n < t → t < 8 → dq y t = 0) : gmn (lfr y) 1 1000000 n = lf y := by
  rw [lf_two h2]
  obtain ⟨s, h1, h3, h4⟩ := cnN_two (alv01 y) 8 (by omega)
  obtain ⟨u, hu1, hu2⟩ := cnN_pos s h3
  have hdu : dq y u ≠ 0 := fun e => by unfold alv at hu2; rw [if_pos e] at hu2; omega
  have hds : dq y s ≠ 0 := fun e => by unfold alv at h4; rw [if_pos e] at h4; omega
  have hb : 0 < blw y s := blw_pos.mpr ⟨u, hu1, hdu⟩
  have ha : 0 < abv y s := (abv_pos (by omega)).mpr ⟨s, Nat.le_refl _, h1, hds⟩
  have hy0 : 0 < y := by have := blw_le hy (show s ≤ 8 by omega); omega
  have hsn : s ≤ n := Classical.byContradiction (fun c => hds (hz s (by omega) h1))
  have hok : ∀ k : Nat, 0 < blw y k ∧ 0 < abv y k → k ≤ 8 → lfr y k = lfc y k ∧ (0 ≤ lfr y k ∧ lfr y k ≤ 25) ∧ k ≤ n := fun k hk k8 => by
    unfold lfr lfc
    rw [Int.toNat_natCast, if_pos hk, if_pos ⟨hk.1, hk.2, hy0⟩]
    have a1 := lf_24 (y := y - blw y k) (by omega)
    have a2 := lf_24 (y := y - abv y k) (by omega)
    refine ⟨rfl, by omega, Classical.byContradiction (fun c => ?_)⟩
    obtain ⟨t, t1, t2, t3⟩ := (abv_pos k8).mp hk.2
    exact t3 (hz t (by omega) t2)
  have hs := hok s ⟨hb, ha⟩ (by omega)
  have hs1 : (1 : Int) + ((s - 1 : Nat) : Int) = ((s : Nat) : Int) := by omega
  have l1 := gmn_le (lfr y) 1 1000000 n (s - 1) (by omega)
  have l2 := gmn_le (lfc y) 1 100 7 (s - 1) (by omega)
  rw [hs1] at l1 l2
  have g1 : gmn (lfr y) 1 1000000 n ≤ gmn (lfc y) 1 100 7 := by
    refine le_gmn 7 (by omega) (fun k hk => ?_)
    rw [show (1 : Int) + (k : Int) = ((k + 1 : Nat) : Int) by omega]
    by_cases c : 0 < blw y (k + 1) ∧ 0 < abv y (k + 1)
    · have hk' := hok (k + 1) c (by omega)
      have l3 := gmn_le (lfr y) 1 1000000 n k (by omega)
      rw [show (1 : Int) + (k : Int) = ((k + 1 : Nat) : Int) by omega, hk'.1] at l3
      exact l3
    · have : lfc y ((k + 1 : Nat) : Int) = 101 := by unfold lfc; rw [Int.toNat_natCast, if_neg (fun h => c ⟨h.1, h.2.1⟩)]
      omega
  have g2 : gmn (lfc y) 1 100 7 ≤ gmn (lfr y) 1 1000000 n := by
    refine le_gmn n (by omega) (fun k hk => ?_)
    rw [show (1 : Int) + (k : Int) = ((k + 1 : Nat) : Int) by omega]
    by_cases c : 0 < blw y (k + 1) ∧ 0 < abv y (k + 1)
    · have hk' := hok (k + 1) c (by omega)
      have l3 := gmn_le (lfc y) 1 100 7 k (by omega)
      rw [show (1 : Int) + (k : Int) = ((k + 1 : Nat) : Int) by omega, ← hk'.1] at l3
      exact l3
    · have : lfr y ((k + 1 : Nat) : Int) = 1000001 := by unfold lfr; rw [Int.toNat_natCast, if_neg c]
      omega
  omega
section
variable {T : gT} {ν : gN}
theorem pow_le65 {b n : Nat} (hb : b ≤ 4) (hn : n ≤ 7) : b ^ (n + 1) ≤ 65536 := by
  have h1 : b ^ (n + 1) ≤ 4 ^ (n + 1) := Nat.pow_le_pow_left hb _
  have h2 : 4 ^ (n + 1) ≤ 4 ^ 8 := Nat.pow_le_pow_right (by decide) (by omega)
  exact Nat.le_trans h1 h2
theorem d_X12_sureFrom {b n x : Nat} (hb : 2 ≤ b ∧ b ≤ 4) (hn : 1 ≤ n ∧ n ≤ 7) (hx : x < b ^ (n + 1)) (ht : ∀ z : Nat, x < z → z < b ^ (n + 1) → ν 95 z = lf (cv b n z)) : gd (g_X12_sureFrom (x : Int) (n : Int) (b : Int)) T ν (lf (cv b n x)) := by
  have h65 := pow_le65 hb.2 hn.2
  have hy := cv_lt b n x hb.2
  unfold g_X12_sureFrom
  refine gd_rd (d_X12_canBe hb (by omega) hn.2) ?_
  have hc8 : cnN (alv (cv b n x)) 8 ≤ 8 := by
    have : ∀ m : Nat, cnN (alv (cv b n x)) m ≤ m := by
      intro m
      induction m with
      | zero => exact Nat.le_refl _
      | succ m ih => have := alv01 (cv b n x) m; show cnN (alv (cv b n x)) m + alv (cv b n x) m ≤ m + 1; omega
    exact this 8
  refine gd_cb ⟨⟨by omega, by omega⟩, ⟨by omega, by omega⟩⟩ (fun c => ?_) (fun c => ?_)
  · have h2 : ¬ cnN (alv (cv b n x)) 8 ≤ 1 := by omega
    rw [← lfr_lf hy hn.2 h2 (fun t t1 t2 => by rw [dq_cv hb.2 t2, if_neg (by omega)])]
    unfold g_X12_sureFrom_21
    refine gd_fx (fun (q : Int × Int) => ∃ s : Nat, q.2 = s ∧ 1 ≤ s ∧ s ≤ n + 1 ∧ q.1 = gmn (lfr (cv b n x)) 1 1000000 (s - 1)) (fun q => 10 - q.2.toNat) ⟨1, rfl, by omega, by omega, rfl⟩ (by show 10 - (1 : Int).toNat < 100000; omega) ?_
    intro rec q hI hrec
    obtain ⟨s, e2, hs1, hs, e1⟩ := hI
    have hq1 : 0 ≤ q.1 ∧ q.1 ≤ 1000000 := by
      rw [e1]
      refine ⟨le_gmn _ (by decide) (fun k hk => ?_), gmn_init _ _ _ _⟩
      unfold lfr
      split
      · have a1 := lf_24 (y := cv b n x - blw (cv b n x) ((1 : Int) + k).toNat) (by omega)
        omega
      · omega
    unfold gB_X12_sureFrom_21
    rw [e2]
    refine gd_cb ⟨⟨by omega, by omega⟩, ⟨by omega, by omega⟩⟩ (fun c2 => ?_) (fun c2 => ?_)
    · rw [e1, show s - 1 = n by omega]; exact gd_ret
    · have hsn : 1 ≤ s ∧ s ≤ n := by omega
      have hmw := (mL_dig (a := 0) (e := s - 1) hb.1 hx (by omega)).1
      have hmb := (mL_dig (a := s) (e := n) hb.1 hx (by omega)).1
      have d1 := d_X12_moreLies (T := T) (ν := ν) (b := b) (x := x) (a := 0) (e := s - 1) hb (by omega) (by omega) (by omega)
      rw [show ((0 : Nat) : Int) = 0 from rfl, show ((s - 1 : Nat) : Int) = (s : Int) - 1 by omega] at d1
      refine gd_rd d1 (gd_rd (d_X12_moreLies hb (by omega) (by omega) (by omega)) (gd_rd (d_X12_canBe hb (by omega) hn.2) ?_))
      have cw := cv_whole hb hn.2 hx hsn
      have cbk := cv_broken hb hn.2 hx hsn
      have iw := mL_whole (x := x) hb hn.2 hsn
      have ib := mL_broken (x := x) hb hn.2 hsn
      have lw := lf_24 (y := cv b n (mL b x 0 (s - 1))) (cv_lt _ _ _ hb.2)
      have lb := lf_24 (y := cv b n (mL b x s n)) (cv_lt _ _ _ hb.2)
      have c8 : ∀ z : Nat, cnN (alv (cv b n z)) 8 ≤ 8 := fun z => by
        have : ∀ m : Nat, cnN (alv (cv b n z)) m ≤ m := by
          intro m
          induction m with
          | zero => exact Nat.le_refl _
          | succ m ih => have := alv01 (cv b n z) m; show cnN (alv (cv b n z)) m + alv (cv b n z) m ≤ m + 1; omega
        exact this 8
      have c8w := c8 (mL b x 0 (s - 1))
      have c8b := c8 (mL b x s n)
      have elf : lfr (cv b n x) (s : Int) = if 0 < blw (cv b n x) s ∧ 0 < abv (cv b n x) s then 1 + max (lf (cv b n (mL b x 0 (s - 1)))) (lf (cv b n (mL b x s n))) else 1000001 := by
        unfold lfr
        rw [Int.toNat_natCast, cw, cbk]
      have hz : 10 - ((s : Int) + 1).toNat < 10 - q.2.toNat := by rw [e2]; omega
      have hnext : ∀ V : Int, (0 ≤ V ∧ V ≤ 1000000) → (if 0 < blw (cv b n x) s ∧ 0 < abv (cv b n x) s then V = max (lf (cv b n (mL b x 0 (s - 1)))) (lf (cv b n (mL b x s n))) else V = 1000000) → gd (g_X12_sureFrom_135 rec x n b q.1 s V) T ν (gmn (lfr (cv b n x)) 1 1000000 n) := fun V hV hVV => by
        unfold g_X12_sureFrom_135
        refine gd_ck ⟨⟨by omega, by omega⟩, ⟨by omega, by omega⟩⟩ (gd_let (gd_let (hrec _ ⟨s + 1, by show (s : Int) + 1 = _; omega, by omega, by omega, ?_⟩ hz)))
        show (if q.1 ≤ V + 1 then q.1 else V + 1) = gmn (lfr (cv b n x)) 1 1000000 (s + 1 - 1)
        rw [show s + 1 - 1 = (s - 1) + 1 by omega]
        show _ = min (gmn (lfr (cv b n x)) 1 1000000 (s - 1)) (lfr (cv b n x) (1 + ((s - 1 : Nat) : Int)))
        rw [← e1, show (1 : Int) + ((s - 1 : Nat) : Int) = (s : Int) by omega, elf]
        by_cases cc : 0 < blw (cv b n x) s ∧ 0 < abv (cv b n x) s
        · rw [if_pos cc] at hVV ⊢
          split <;> omega
        · rw [if_neg cc] at hVV ⊢
          split <;> omega
      have htab : ∀ z : Nat, mL b x z n ≠ x → True := fun _ _ => trivial
      have hge : ∀ a e : Nat, x ≤ mL b x a e := fun a e => by unfold mL; omega
      have tw : mL b x 0 (s - 1) ≠ x → ν 95 ((mL b x 0 (s - 1) : Nat) : Int) = lf (cv b n (mL b x 0 (s - 1))) := fun h => ht _ (by have := hge 0 (s - 1); omega) hmw
      have tb : mL b x s n ≠ x → ν 95 ((mL b x s n : Nat) : Int) = lf (cv b n (mL b x s n)) := fun h => ht _ (by have := hge s n; omega) hmb
      have h86 : ∀ W : Int, (0 ≤ W ∧ W ≤ 1000000) → (if 0 < blw (cv b n x) s then W = lf (cv b n (mL b x 0 (s - 1))) else W = 1000000) → gd (g_X12_sureFrom_86 rec x n b q.1 s (mL b x s n : Nat) W) T ν (gmn (lfr (cv b n x)) 1 1000000 n) := fun W hW hWW => by
        unfold g_X12_sureFrom_86 g_X12_sureFrom_133
        refine gd_rd (d_X12_canBe hb (by omega) hn.2) (gd_cz ⟨by omega, by omega⟩ (fun c3 => ?_) (fun c3 => gd_cb ⟨⟨by omega, by omega⟩, ⟨by omega, by omega⟩⟩ (fun c4 => gd_al ⟨by omega, by omega⟩ ?_) (fun c4 => ?_)))
        · have l0 : lf (cv b n (mL b x s n)) = 0 := lf_one (by omega)
          refine hnext W hW ?_
          have hab : 0 < abv (cv b n x) s := Classical.byContradiction (fun h => by rw [ib.mpr h] at c3; omega)
          by_cases cb : 0 < blw (cv b n x) s
          · rw [if_pos ⟨cb, hab⟩]
            rw [if_pos cb] at hWW
            omega
          · rw [if_neg (fun h => cb h.1)]
            rw [if_neg cb] at hWW
            exact hWW
        · have hne : mL b x s n ≠ x := fun h => c4 (by rw [h])
          have hab : 0 < abv (cv b n x) s := Classical.byContradiction (fun h => hne (ib.mpr h))
          rw [tb hne]
          have hfin : (if 0 < blw (cv b n x) s ∧ 0 < abv (cv b n x) s then max W (lf (cv b n (mL b x s n))) = max (lf (cv b n (mL b x 0 (s - 1)))) (lf (cv b n (mL b x s n))) else max W (lf (cv b n (mL b x s n))) = 1000000) := by
            by_cases cb : 0 < blw (cv b n x) s
            · rw [if_pos ⟨cb, hab⟩]
              rw [if_pos cb] at hWW
              rw [hWW]
            · rw [if_neg (fun h => cb h.1)]
              rw [if_neg cb] at hWW
              omega
          refine gd_cb ⟨⟨by omega, by omega⟩, ⟨by omega, by omega⟩⟩ (fun c5 => ?_) (fun c5 => gd_al ⟨by omega, by omega⟩ ?_)
          · rw [show max W (lf (cv b n (mL b x s n))) = W by omega] at hfin
            exact hnext W hW hfin
          · rw [tb hne]
            rw [show max W (lf (cv b n (mL b x s n))) = lf (cv b n (mL b x s n)) by omega] at hfin
            exact hnext _ ⟨by omega, by omega⟩ hfin
        · have he : mL b x s n = x := by omega
          have hab : ¬ 0 < abv (cv b n x) s := ib.mp he
          exact hnext 1000000 (by decide) (by rw [if_neg (fun h => hab h.2)])
      unfold g_X12_sureFrom_84
      refine gd_cz ⟨by omega, by omega⟩ (fun c3 => h86 0 (by decide) ?_) (fun c3 => gd_cb ⟨⟨by omega, by omega⟩, ⟨by omega, by omega⟩⟩ (fun c4 => gd_al ⟨by omega, by omega⟩ ?_) (fun c4 => ?_))
      · have l0 : lf (cv b n (mL b x 0 (s - 1))) = 0 := lf_one (by omega)
        have hbl : 0 < blw (cv b n x) s := Classical.byContradiction (fun h => by rw [iw.mpr h] at c3; omega)
        rw [if_pos hbl, l0]
      · have hne : mL b x 0 (s - 1) ≠ x := fun h => c4 (by rw [h])
        have hbl : 0 < blw (cv b n x) s := Classical.byContradiction (fun h => hne (iw.mpr h))
        rw [tw hne]
        exact h86 _ ⟨by omega, by omega⟩ (by rw [if_pos hbl])
      · have he : mL b x 0 (s - 1) = x := by omega
        have hbl : ¬ 0 < blw (cv b n x) s := iw.mp he
        exact h86 1000000 (by decide) (by rw [if_neg hbl])
  · rw [lf_one (by omega)]; exact gd_ret
theorem s_X12_lies {n l : Int} (hn : -2147483648 ≤ n ∧ n ≤ 2147483647) (hl : -2147483648 ≤ l ∧ l ≤ 2147483647) : gv (g_X12_lies n l) T ν (fun r ν' => r = (if (1 ≤ n ∧ n ≤ 7) ∧ (0 ≤ l ∧ l ≤ 2) then lf (cv (l + 2).toNat n.toNat 0) else -1) ∧ gfr [95, -6902] ν ν') := by
  unfold g_X12_lies
  refine gv_put ?_
  refine gv_tz (k1 := gret 0) (k2 := gret 0) (d_X12_isIn hn (by decide) (by decide)) (fun c1 => gv_e1 ?_) (fun c => gv_e0 (gv_ret ⟨by rw [if_neg (fun h => c h.1)], (gfr.refl _ _).up (by decide)⟩))
  refine gv_tz (k1 := gret 0) (k2 := gret 0) (d_X12_isIn hl (by decide) (by decide)) (fun c2 => gv_c1 ?_) (fun c => gv_c0 (gv_ret ⟨by rw [if_neg (fun h => c h.2)], (gfr.refl _ _).up (by decide)⟩))
  rw [show (if (1 ≤ n ∧ n ≤ 7) ∧ (0 ≤ l ∧ l ≤ 2) then lf (cv (l + 2).toNat n.toNat 0) else -1) = lf (cv (l + 2).toNat n.toNat 0) from if_pos ⟨c1, c2⟩]
  obtain ⟨N, hN⟩ : ∃ N : Nat, n = N := ⟨n.toNat, by omega⟩
  obtain ⟨b, hb⟩ : ∃ b : Nat, l + 2 = b := ⟨(l + 2).toNat, by omega⟩
  refine gv_let ?_
  rw [hb, hN, Int.toNat_natCast, Int.toNat_natCast]
  have hb2 : 2 ≤ b ∧ b ≤ 4 := by omega
  have hN2 : 1 ≤ N ∧ N ≤ 7 := by omega
  have h65 := pow_le65 hb2.2 hN2.2
  unfold g_X12_lies_36
  refine gv_fx (fun (q : Int × Int) τ => τ = gup ν (-6902) 0 0 ∧ ∃ k : Nat, q.2 = k ∧ k ≤ N + 1 ∧ q.1 = ((b ^ k : Nat) : Int)) (fun q _ => 10 - q.2.toNat) ⟨rfl, 0, rfl, by omega, rfl⟩ (by show 10 - (0 : Int).toNat < 100000; omega) ?_
  intro rec q τ hI hrec
  obtain ⟨rfl, k, e2, hk, e1⟩ := hI
  unfold gB_X12_lies_36
  rw [e2, e1]
  refine gv_cb ⟨⟨by omega, by omega⟩, ⟨by omega, by omega⟩⟩ (fun c => gv_let ?_) (fun c => gv_let (gv_let (hrec _ _ ⟨rfl, k + 1, by show (k : Int) + 1 = _; omega, by omega, by show ((b ^ k : Nat) : Int) * (b : Int) = _; rw [Nat.pow_succ, Int.natCast_mul]⟩ (by show 10 - ((k : Int) + 1).toNat < 10 - q.2.toNat; rw [e2]; omega))))
  rw [show k = N + 1 by omega]
  have hpos : 0 < b ^ (N + 1) := Nat.pow_pos (by omega)
  unfold g_X12_lies_60
  refine gv_fx (fun (x : Int) τ => ∃ m : Nat, x = (m : Int) - 1 ∧ m ≤ b ^ (N + 1) ∧ gfr [95, -6902] ν τ ∧ ∀ z : Nat, m ≤ z → z < b ^ (N + 1) → τ 95 z = lf (cv b N z)) (fun x _ => (x + 1).toNat) ⟨b ^ (N + 1), rfl, Nat.le_refl _, (gfr.refl _ _).up (by decide), fun z h1 h2 => by omega⟩ (by omega) ?_
  intro rec2 x τ hI2 hrec2
  obtain ⟨m, rfl, hm, hf, htb⟩ := hI2
  unfold gB_X12_lies_60
  refine gv_cz ⟨by omega, by omega⟩ (fun c2 => gv_al (by decide) (gv_ret ⟨?_, hf⟩)) (fun c2 => ?_)
  · have := htb 0 (by omega) hpos
    exact this
  · obtain ⟨p, rfl⟩ := Nat.exists_eq_succ_of_ne_zero (show m ≠ 0 by omega)
    rw [show ((Nat.succ p : Nat) : Int) - 1 = (p : Int) by omega]
    have hpp : p < b ^ (N + 1) := by omega
    refine gv_rd (d_X12_sureFrom hb2 hN2 hpp (fun z h1 h2 => htb z (by omega) h2)) (gv_as ⟨by omega, by omega⟩ (gv_let (hrec2 _ _ ⟨p, by omega, by omega, hf.up (by decide), fun z h1 h2 => ?_⟩ (by omega))))
    rw [gup_same]
    by_cases e : z = p
    · rw [if_pos (by rw [e]), e]
    · rw [if_neg (by omega)]; exact htb z (by omega) h2
end
