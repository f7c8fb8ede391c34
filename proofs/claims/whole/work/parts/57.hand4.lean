/-! THE TRIAL BY HAND: a fall, and back -/
section
variable {T : gT} {ν : gN}
theorem gup6902 {W : List Int} (h : (-6902 : Int) ∈ W) : gfr W ν (gup ν (-6902) 0 0) := (gfr.refl _ _).up h
theorem c_drop {k s : Int} (hk0 : -2147483648 ≤ k ∧ k ≤ 2147483647) (hs0 : -2147483648 ≤ s ∧ s ≤ 2147483647) (hs : iSt ν) (hh : iHd ν) : gb (g_X11_drop k s) (g_X12_drop k s) T ν (fun r ν' => (-1 ≤ r ∧ r ≤ 2) ∧ gfr wHd ν ν' ∧ iHd ν') := by
  have hno : iHd (gup ν (-6902) 0 0) := iHd_eq ((gup6902 (W := [-6902]) (by decide)).eq (by decide)) hh
  have htop := hs.1
  unfold gb g_X11_drop
  refine gv_get ?_
  rcases hh with ⟨a1, a2⟩ | ⟨a1, a2, f, hf⟩
  · rw [a1]
    refine gv_e0 (gv_ret ?_)
    unfold g_X12_drop
    refine gv_put (gv_get ?_)
    rw [gup_ne (by decide), a2]
    exact gv_e0 (gv_ret ⟨rfl, by omega, gup6902 (by decide), hno⟩)
  · rw [a1]
    have hr := hf.r
    have hr1 : hrK (gup ν (-6902) 0 0) f := by
      unfold hrK
      simp (disch := decide) only [gup_ne]
      exact hr
    have hd1 : nD (gup ν (-6902) 0 0) 71 := by unfold nD; rw [gup_ne (by decide)]; exact hs.d71
    have hin := hf.in hs f (by omega)
    have b1 := hlo_in (d := ν 3) (K := ν 101) (S := ν 102) (ν (-6108) 0) f hin
    have b2 := hhi_in (d := ν 3) (K := ν 101) (S := ν 102) (ν (-6108) 0) (ν (-200) 0) (by omega) f hin
    obtain ⟨k1, k2, k3, k4, k5, k6, k7, k8, k9, k10, k11⟩ := hf
    have hcg : ∀ i : Int, 0 ≤ i → i < f → ν 101 i = ν 101 i ∧ ν 102 i = ν 102 i ∧ ν 3 (ν 101 i) = ν 71 (ν 101 i) := fun i a b => ⟨rfl, rfl, ((hs.2.2.2.2.2.2.1 _ (k6 i a b).1.1 (k6 i a b).1.2).1).symm⟩
    have eq : ∀ k : Int, 0 ≤ k → k < 3 → ν 62 k = hlf (ν 72) (ν 71) (ν 101) (ν 102) (ν (-6964) 0) k f := fun k a b => by
      rw [(k11 k a b).1, k5]
      exact hlf_congr _ _ _ ((hs.2.2.2.2.2.2.1 k a b).2.1).symm hcg
    have hl4 : ∀ k : Int, 0 ≤ k → k < 3 → 0 ≤ ν 62 k ∧ ν 62 k ≤ 4 := fun k a b => by
      have l0 := k11 k a b
      have q0 := hlf_le (p := ν 4) (d := ν 3) (K := ν 101) (S := ν 102) (ν (-6108) 0) k f
      have p0 := (hs.2.1 k a b).2.1
      omega
    refine gv_e1 ?_
    refine gv_tz (k1 := gret 0) (k2 := gret 0) (d_X1_canFall_o61 hk0 hs0 htop (fun k a b => by have := hl4 k a b; omega) ⟨by omega, by omega⟩) (fun c => gv_c1 ?_) (fun c => gv_c0 (gv_ret ?_))
    · obtain ⟨c1, c2, c3, c4⟩ := c
      have hd3 := (hs.2.1 k c1.1 c1.2).1
      have hpr := (hs.2.1 k c1.1 c1.2).2.2
      have hss : 1 ≤ s ∧ s ≤ 40 := by omega
      refine gv_call (s_X1_letFall_o61 c1 hss hs.d3 ⟨by omega, by omega⟩ k4 ⟨by omega, by omega⟩ ⟨by omega, by omega⟩ rfl) (fun r ν1 h1 => ?_)
      obtain ⟨rfl, hf1, m1, m2, m3, m4, m5, m6, m7, m8, m9, m10, m11, m12⟩ := h1
      generalize hbdef : (if s ≤ ν (-6108) 0 + ν 3 k then (0 : Int) else 1) = b at *
      have hb01 : b = 0 ∨ b = 1 := by rw [← hbdef]; split <;> omega
      refine gv_ck ⟨by omega, by omega⟩ (gv_let (gv_ret ?_))
      have e71 : ν 71 k = ν 3 k := (hs.2.2.2.2.2.2.1 k c1.1 c1.2).1
      have e73 : ν 73 k = ν 5 k := (hs.2.2.2.2.2.2.1 k c1.1 c1.2).2.2
      have hcl : (0 ≤ ν (-205) 0 * s ∧ ν (-205) 0 * s ≤ 360) := by
        have := hs.2.2.2.2.1
        constructor
        · exact Int.mul_nonneg this.1 (by omega)
        · have h1 : ν (-205) 0 * s ≤ 9 * s := Int.mul_le_mul_of_nonneg_right this.2 (by omega)
          omega
      have hfc := hs.2.2.2.1
      have hr2 : hrK (gup ν1 (-6902) 0 0) f := by
        unfold hrK
        simp (disch := decide) only [gup_ne]
        rw [hf1 (-6965) (by decide), hf1 (-6964) (by decide), hf1 101 (by decide), hf1 102 (by decide), hf1 103 (by decide)]
        exact hr
      have hd2 : nD (gup ν1 (-6902) 0 0) 71 := by unfold nD; rw [gup_ne (by decide), hf1 71 (by decide)]; exact hs.d71
      unfold g_X12_drop
      refine gv_put (gv_get ?_)
      rw [gup_ne (by decide), hf1 (-6963) (by decide), a2]
      refine gv_e1 (gv_get ?_)
      rw [gup_ne (by decide), hf1 (-6965) (by decide), k3]
      refine gv_cb ⟨⟨by omega, by omega⟩, ⟨by omega, by omega⟩⟩ (fun h => by omega) (fun _ => ?_)
      refine gv_tz (k1 := gret 0) (k2 := gret 0) (d_X12_isKind hk0) (fun _ => gv_e1 ?_) (fun h => absurd c1 h)
      have e6903 : gup ν1 (-6902) 0 0 (-6903) = ν (-6903) := (gup_ne (by decide)).trans (hf1 _ (by decide))
      refine gv_tz (k1 := gret 0) (k2 := gret 0) (d_X12_isStep hs0 (by rw [e6903]; exact hs.top)) (fun _ => gv_e1 ?_) (fun h => absurd (show 1 ≤ s ∧ s ≤ gup ν1 (-6902) 0 0 (-6903) 0 by rw [e6903, hs.2.2.2.2.2.1]; exact c2) h)
      refine gv_rd (d_X12_leftNow c1 hr2 hd2) ?_
      have elf : hlf (gup ν1 (-6902) 0 0 72) (gup ν1 (-6902) 0 0 71) (gup ν1 (-6902) 0 0 101) (gup ν1 (-6902) 0 0 102) (gup ν1 (-6902) 0 0 (-6964) 0) k f = ν 62 k := by
        simp (disch := decide) only [gup_ne]
        rw [hf1 72 (by decide), hf1 71 (by decide), hf1 101 (by decide), hf1 102 (by decide), hf1 (-6964) (by decide)]
        exact (eq k c1.1 c1.2).symm
      rw [elf]
      have hl4k := hl4 k c1.1 c1.2
      refine gv_cz ⟨by omega, by omega⟩ (fun _ => gv_get (gv_ck hs0 ?_)) (fun h => absurd (by omega) h)
      rw [show gup ν1 (-6902) 0 0 (-6964) = ν (-6964) from (gup_ne (by decide)).trans (hf1 _ (by decide)), k5]
      have e71' : gup ν1 (-6902) 0 0 71 k = ν 3 k := by rw [gup_ne (by decide), hf1 71 (by decide), e71]
      have hbr : gd (g_X12_breaks (ν (-6108) 0) k s) T (gup ν1 (-6902) 0 0) b := by
        rw [← hbdef, ← e71']
        exact d_X12_breaks c1 hs0 ⟨by omega, by omega⟩ (by rw [e71']; exact hd3)
      refine gv_rd hbr (gv_get ?_)
      rw [gup_ne (by decide), hf1 (-6965) (by decide), k3]
      refine gv_as ⟨by omega, by omega⟩ (gv_get ?_)
      rw [gup_ne (by decide), gup_ne (by decide), hf1 (-6965) (by decide), k3]
      refine gv_as ⟨by omega, by omega⟩ (gv_get ?_)
      rw [gup_ne (by decide), gup_ne (by decide), gup_ne (by decide), hf1 (-6965) (by decide), k3]
      unfold g_X12_costOf
      refine gv_bd (gv_get (gv_get (gv_ret ?_)))
      rw [gup_ne (by decide), gup_ne (by decide), gup_ne (by decide), hf1 (-6908) (by decide), gup_ne (by decide), gup_ne (by decide), gup_ne (by decide), hf1 (-6909) (by decide), hs.2.2.2.2.2.2.2.2.1, hs.2.2.2.2.2.2.2.2.2]
      have hfin : ∀ pr : Int, pr = (if b = 0 then 0 else ν 5 k) → gv (g_X12_drop_105 b f (ν (-204) 0 + ν (-205) 0 * s) pr) T (gup (gup (gup ν1 (-6902) 0 0) 101 f k) 102 f s) (fun r2 ν2 => r2 = (if b = 0 then 1 else 2) ∧ (-1 ≤ (if b = 0 then (1 : Int) else 2) ∧ (if b = 0 then (1 : Int) else 2) ≤ 2) ∧ gfr wHd ν ν2 ∧ iHd ν2) := fun pr hpr => by
        have hprb : 0 ≤ pr ∧ pr ≤ 99 := by rw [hpr]; split <;> omega
        unfold g_X12_drop_105
        refine gv_as ⟨by omega, by omega⟩ (gv_get (gv_put (gv_ck ⟨by omega, by omega⟩ (gv_let (gv_ret ⟨rfl, by split <;> omega, ((((hf1.mono (by decide)).up (by decide)).up (by decide)).up (by decide)).up (by decide) |>.up (by decide), Or.inr ⟨?_, ?_, f + 1, ?_⟩⟩)))))
        · simp (disch := decide) only [gup_ne]; rw [hf1 (-114) (by decide)]; exact a1
        · simp (disch := decide) only [gup_ne]; rw [hf1 (-6963) (by decide)]; exact a2
        · have n101 : ∀ i : Int, 0 ≤ i → i < f → (if i = (f : Int) then k else ν 101 i) = ν 101 i := fun i _ b => if_neg (by omega)
          have n102 : ∀ i : Int, 0 ≤ i → i < f → (if i = (f : Int) then s else ν 102 i) = ν 102 i := fun i _ b => if_neg (by omega)
          have n103 : ∀ i : Int, 0 ≤ i → i < f → (if i = (f : Int) then ν (-204) 0 + ν (-205) 0 * s + pr else ν 103 i) = ν 103 i := fun i _ b => if_neg (by omega)
          have hcg2 : ∀ n : Nat, n ≤ f → ∀ i : Int, 0 ≤ i → i < n → ν 101 i = (if i = (f : Int) then k else ν 101 i) ∧ ν 102 i = (if i = (f : Int) then s else ν 102 i) ∧ ν 3 (ν 101 i) = ν 3 (if i = (f : Int) then k else ν 101 i) := fun n hn i a c => by
            rw [n101 i a (by omega), n102 i a (by omega)]; exact ⟨rfl, rfl, rfl⟩
          have eK : gup (gup (gup (gup (gup ν1 (-6902) 0 0) 101 f k) 102 f s) 103 f (ν (-204) 0 + ν (-205) 0 * s + pr)) (-6965) 0 (gup (gup (gup (gup ν1 (-6902) 0 0) 101 f k) 102 f s) 103 f (ν (-204) 0 + ν (-205) 0 * s + pr) (-6965) 0 + 1) 101 = (fun i => if i = (f : Int) then k else ν 101 i) := by
            funext i
            simp (disch := decide) only [gup_ne, gup_same]
            rw [hf1 101 (by decide)]
          have eS : gup (gup (gup (gup (gup ν1 (-6902) 0 0) 101 f k) 102 f s) 103 f (ν (-204) 0 + ν (-205) 0 * s + pr)) (-6965) 0 (gup (gup (gup (gup ν1 (-6902) 0 0) 101 f k) 102 f s) 103 f (ν (-204) 0 + ν (-205) 0 * s + pr) (-6965) 0 + 1) 102 = (fun i => if i = (f : Int) then s else ν 102 i) := by
            funext i
            simp (disch := decide) only [gup_ne, gup_same]
            rw [hf1 102 (by decide)]
          have eC : gup (gup (gup (gup (gup ν1 (-6902) 0 0) 101 f k) 102 f s) 103 f (ν (-204) 0 + ν (-205) 0 * s + pr)) (-6965) 0 (gup (gup (gup (gup ν1 (-6902) 0 0) 101 f k) 102 f s) 103 f (ν (-204) 0 + ν (-205) 0 * s + pr) (-6965) 0 + 1) 103 = (fun i => if i = (f : Int) then ν (-204) 0 + ν (-205) 0 * s + pr else ν 103 i) := by
            funext i
            simp (disch := decide) only [gup_ne, gup_same]
            rw [hf1 103 (by decide)]
          unfold hdK
          rw [eK, eS, eC]
          simp (disch := decide) only [gup_ne, gup_at]
          rw [hf1 (-6108) (by decide), hf1 (-6964) (by decide), hf1 3 (by decide), hf1 4 (by decide), hf1 (-200) (by decide), hf1 (-6965) (by decide), k3]
          have hbkf : hbk (ν 3) (fun i => if i = (f : Int) then k else ν 101 i) (fun i => if i = (f : Int) then s else ν 102 i) (ν (-6108) 0) f = b := by
            unfold hbk
            show (if (if (f : Int) = f then s else ν 102 f) ≤ ν (-6108) 0 + ν 3 (if (f : Int) = f then k else ν 101 f) then (0 : Int) else 1) = b
            rw [if_pos rfl, if_pos rfl]
            exact hbdef
          refine ⟨by omega, by rw [m8, k2]; omega, by omega, k4, k5, fun i a c => ?_, fun i a c => ⟨?_, ?_, ?_, ?_, ?_⟩, ?_, ?_, ?_, fun q a c => ⟨?_, ?_⟩⟩
          · show (0 ≤ (if i = (f : Int) then k else ν 101 i) ∧ (if i = (f : Int) then k else ν 101 i) < 3) ∧ (1 ≤ (if i = (f : Int) then s else ν 102 i) ∧ (if i = (f : Int) then s else ν 102 i) ≤ 40) ∧ (0 ≤ (if i = (f : Int) then ν (-204) 0 + ν (-205) 0 * s + pr else ν 103 i) ∧ (if i = (f : Int) then ν (-204) 0 + ν (-205) 0 * s + pr else ν 103 i) ≤ 1000)
            by_cases e : i = f
            · rw [if_pos e, if_pos e, if_pos e]; exact ⟨c1, hss, by omega⟩
            · rw [if_neg e, if_neg e, if_neg e]; exact k6 i a (by omega)
          · rw [m1, k2]
            by_cases e : i = f
            · rw [if_pos e, if_pos e]
            · rw [if_neg e, if_neg e]; exact (k7 i a (by omega)).1
          · rw [m3, k2]
            by_cases e : i = f
            · rw [if_pos e, e, hbkf]
            · rw [if_neg e, (k7 i a (by omega)).2.1]
              unfold hbk
              show _ = (if (if i = (f : Int) then s else ν 102 i) ≤ ν (-6108) 0 + ν 3 (if i = (f : Int) then k else ν 101 i) then (0 : Int) else 1)
              rw [if_neg e, if_neg e]
          · rw [m4, k2]
            by_cases e : i = f
            · rw [if_pos e, k8, e, Int.toNat_natCast]; exact hlo_congr _ _ (hcg2 f (by omega))
            · rw [if_neg e, (k7 i a (by omega)).2.2.1]; exact hlo_congr _ _ (hcg2 i.toNat (by omega))
          · rw [m5, k2]
            by_cases e : i = f
            · rw [if_pos e, k9, e, Int.toNat_natCast]; exact hhi_congr _ _ _ (hcg2 f (by omega))
            · rw [if_neg e, (k7 i a (by omega)).2.2.2.1]; exact hhi_congr _ _ _ (hcg2 i.toNat (by omega))
          · rw [m6, k2]
            by_cases e : i = f
            · rw [if_pos e, k10, e, Int.toNat_natCast]; exact gsum_congr f (fun j hj => (n103 j (by omega) (by omega)).symm)
            · rw [if_neg e, (k7 i a (by omega)).2.2.2.2]; exact gsum_congr i.toNat (fun j hj => (n103 j (by omega) (by omega)).symm)
          · rw [m9, k8]
            show _ = (if hbk (ν 3) (fun i => if i = (f : Int) then k else ν 101 i) (fun i => if i = (f : Int) then s else ν 102 i) (ν (-6108) 0) f = 0 then max (hlo (ν 3) _ _ (ν (-6108) 0) f) ((if (f : Int) = f then s else ν 102 f) - ν 3 (if (f : Int) = f then k else ν 101 f)) else hlo (ν 3) _ _ (ν (-6108) 0) f)
            rw [hbkf, if_pos rfl, if_pos rfl, ← hlo_congr (ν (-6108) 0) f (hcg2 f (by omega))]
          · rw [m10, k9]
            show _ = (if hbk (ν 3) (fun i => if i = (f : Int) then k else ν 101 i) (fun i => if i = (f : Int) then s else ν 102 i) (ν (-6108) 0) f = 0 then hhi (ν 3) _ _ (ν (-6108) 0) (ν (-200) 0) f else min (hhi (ν 3) _ _ (ν (-6108) 0) (ν (-200) 0) f) ((if (f : Int) = f then s else ν 102 f) - ν 3 (if (f : Int) = f then k else ν 101 f) - 1))
            rw [hbkf, if_pos rfl, if_pos rfl, ← hhi_congr (ν (-6108) 0) (ν (-200) 0) f (hcg2 f (by omega))]
          · rw [m12, k10]
            show _ = gsum _ f + (if (f : Int) = f then ν (-204) 0 + ν (-205) 0 * s + pr else ν 103 f)
            rw [if_pos rfl, gsum_congr (f := fun i => if i = (f : Int) then ν (-204) 0 + ν (-205) 0 * s + pr else ν 103 i) (g := ν 103) f (fun j hj => n103 j (by omega) (by omega)), hpr]
          · rw [m7, hlf_succ, hbkf, ← hlf_congr (ν (-6108) 0) q f rfl (hcg2 f (by omega))]
            show _ = hlf (ν 4) (ν 3) (ν 101) (ν 102) (ν (-6108) 0) q f - (if (if (f : Int) = f then k else ν 101 f) = q then b else 0)
            rw [if_pos (rfl : (f : Int) = f)]
            by_cases e : q = k
            · rw [if_pos e, if_pos e.symm, e, (k11 k c1.1 c1.2).1]
            · rw [if_neg e, if_neg (fun h => e h.symm), (k11 q a c).1]; omega
          · rw [m7]
            by_cases e : q = k
            · rw [if_pos e]; omega
            · rw [if_neg e]; exact (k11 q a c).2
      refine gv_cz ⟨by omega, by omega⟩ (fun c5 => hfin 0 (by rw [if_pos c5])) (fun c5 => gv_al c1 (hfin _ ?_))
      rw [gup_ne (by decide), gup_ne (by decide), gup_ne (by decide), hf1 73 (by decide), e73, if_neg c5]
    · unfold g_X12_drop
      refine gv_put (gv_get ?_)
      rw [gup_ne (by decide), a2]
      refine gv_e1 (gv_get ?_)
      rw [gup_ne (by decide), k3]
      refine gv_cb ⟨⟨by omega, by omega⟩, ⟨by omega, by omega⟩⟩ (fun _ => gv_ret ⟨rfl, by omega, gup6902 (by decide), hno⟩) (fun c4 => ?_)
      refine gv_tz (k1 := gret 0) (k2 := gret 0) (d_X12_isKind hk0) (fun c1 => gv_e1 ?_) (fun _ => gv_e0 (gv_ret ⟨rfl, by omega, gup6902 (by decide), hno⟩))
      have e6903 : gup ν (-6902) 0 0 (-6903) = ν (-6903) := gup_ne (by decide)
      refine gv_tz (k1 := gret 0) (k2 := gret 0) (d_X12_isStep hs0 (by rw [e6903]; exact hs.top)) (fun c2 => gv_e1 ?_) (fun _ => gv_e0 (gv_ret ⟨rfl, by omega, gup6902 (by decide), hno⟩))
      rw [e6903, hs.2.2.2.2.2.1] at c2
      refine gv_rd (d_X12_leftNow c1 hr1 hd1) ?_
      have elf : hlf (gup ν (-6902) 0 0 72) (gup ν (-6902) 0 0 71) (gup ν (-6902) 0 0 101) (gup ν (-6902) 0 0 102) (gup ν (-6902) 0 0 (-6964) 0) k f = ν 62 k := by
        simp (disch := decide) only [gup_ne]
        exact (eq k c1.1 c1.2).symm
      rw [elf]
      have hl4k := hl4 k c1.1 c1.2
      refine gv_cz ⟨by omega, by omega⟩ (fun c3 => absurd ⟨c1, c2, by omega, by omega⟩ c) (fun _ => gv_ret ⟨rfl, by omega, gup6902 (by decide), hno⟩)
theorem c_back (hs : iSt ν) (hh : iHd ν) : gb g_X11_back g_X12_back T ν (fun r ν' => (-1 ≤ r ∧ r ≤ 100) ∧ gfr wHd ν ν' ∧ iHd ν') := by
  have hno : iHd (gup ν (-6902) 0 0) := iHd_eq ((gup6902 (W := [-6902]) (by decide)).eq (by decide)) hh
  unfold gb g_X11_back
  refine gv_get ?_
  rcases hh with ⟨a1, a2⟩ | ⟨a1, a2, f, hf⟩
  · rw [a1]
    refine gv_e0 (gv_ret ?_)
    unfold g_X12_back
    refine gv_put (gv_get ?_)
    rw [gup_ne (by decide), a2]
    exact gv_e0 (gv_ret ⟨rfl, by omega, gup6902 (by decide), hno⟩)
  · rw [a1]
    obtain ⟨k1, k2, k3, k4, k5, k6, k7, k8, k9, k10, k11⟩ := hf
    refine gv_e1 (gv_get ?_)
    rw [k2]
    refine gv_cz ⟨by omega, by omega⟩ (fun c => ?_) (fun c => gv_ret ?_)
    · obtain ⟨g, rfl⟩ := Nat.exists_eq_succ_of_ne_zero (show f ≠ 0 by omega)
      obtain ⟨q1, q2, q3, q4, q5⟩ := k7 g (by omega) (by omega)
      obtain ⟨p1, p2, p3⟩ := k6 g (by omega) (by omega)
      have e1 : ((Nat.succ g : Nat) : Int) - 1 = g := by omega
      have hcls : gv (gbd g_X1_takeBack_o61 (fun _ => gget (-6111) (fun v30 => gret v30))) T ν (fun r ν1 => r = g ∧ gfr [-6111, -6109, -6110, -6113, 62, -6112] ν ν1 ∧ ν1 (-6111) 0 = g ∧ ν1 (-6109) 0 = ν 66 g ∧ ν1 (-6110) 0 = ν 67 g ∧ ν1 (-6113) 0 = ν 68 g ∧ ∀ j : Int, ν1 62 j = if j = ν 101 g then ν 62 (ν 101 g) + ν 65 g else ν 62 j) := by
        unfold g_X1_takeBack_o61
        refine gv_bd (gv_get ?_)
        rw [k2]
        refine gv_cz ⟨by omega, by omega⟩ (fun h => by omega) (fun _ => gv_get ?_)
        rw [k2, e1]
        refine gv_put (gv_get ?_)
        rw [gup_at]
        refine gv_al ⟨by omega, by omega⟩ (gv_put (gv_get ?_))
        simp (disch := decide) only [gup_ne, gup_at]
        refine gv_al ⟨by omega, by omega⟩ (gv_put (gv_get ?_))
        simp (disch := decide) only [gup_ne, gup_at]
        refine gv_al ⟨by omega, by omega⟩ (gv_put (gv_get ?_))
        simp (disch := decide) only [gup_ne, gup_at]
        refine gv_al ⟨by omega, by omega⟩ ?_
        simp (disch := decide) only [gup_ne, gup_at]
        rw [q1]
        refine gv_al p1 (gv_get ?_)
        simp (disch := decide) only [gup_ne, gup_at]
        refine gv_al ⟨by omega, by omega⟩ (gv_as p1 (gv_get (gv_get ?_)))
        simp (disch := decide) only [gup_ne, gup_at]
        refine gv_al ⟨by omega, by omega⟩ (gv_put (gv_ret (gv_get (gv_ret ?_))))
        simp (disch := decide) only [gup_ne, gup_at]
        refine ⟨by trivial, ((((((gfr.refl _ _).up (by decide)).up (by decide)).up (by decide)).up (by decide)).up (by decide)).up (by decide), by trivial, by trivial, by trivial, by trivial, fun j => ?_⟩
        rw [gup_same]
        simp (disch := decide) only [gup_ne]
      refine hcls.mono (fun r ν1 h1 => ?_)
      obtain ⟨rfl, hf1, m1, m2, m3, m4, m5⟩ := h1
      unfold g_X12_back
      refine gv_put (gv_get ?_)
      rw [gup_ne (by decide), hf1 (-6963) (by decide), a2]
      refine gv_e1 (gv_get ?_)
      rw [gup_ne (by decide), hf1 (-6965) (by decide), k3]
      refine gv_cz ⟨by omega, by omega⟩ (fun _ => gv_get (gv_put (gv_get (gv_ret ?_)))) (fun h => by omega)
      rw [gup_at, gup_ne (by decide), hf1 (-6965) (by decide), k3, e1]
      refine ⟨rfl, by omega, ((hf1.mono (by decide)).up (by decide)).up (by decide), Or.inr ⟨?_, ?_, g, ?_⟩⟩
      · rw [gup_ne (by decide), gup_ne (by decide), hf1 (-114) (by decide)]; exact a1
      · rw [gup_ne (by decide), gup_ne (by decide), hf1 (-6963) (by decide)]; exact a2
      · unfold hdK
        simp (disch := decide) only [gup_ne, gup_at]
        rw [hf1 (-6108) (by decide), hf1 (-6964) (by decide), hf1 101 (by decide), hf1 102 (by decide), hf1 103 (by decide), hf1 63 (by decide), hf1 65 (by decide), hf1 66 (by decide), hf1 67 (by decide), hf1 68 (by decide), hf1 3 (by decide), hf1 4 (by decide), hf1 (-200) (by decide), m1, m2, m3, m4]
        refine ⟨by omega, rfl, by trivial, k4, k5, fun i a b => k6 i a (by omega), fun i a b => k7 i a (by omega), ?_, ?_, ?_, fun q a b => ?_⟩
        · rw [q3, Int.toNat_natCast]
        · rw [q4, Int.toNat_natCast]
        · rw [q5, Int.toNat_natCast]
        · rw [m5]
          have kq := k11 q a b
          rw [hlf_succ] at kq
          have hb01 := hbk01 (ν 3) (ν 101) (ν 102) (ν (-6108) 0) g
          by_cases e : q = ν 101 g
          · rw [if_pos e.symm] at kq
            rw [if_pos e, q2, ← e]; omega
          · rw [if_neg (fun h => e h.symm)] at kq
            rw [if_neg e]; omega
    · unfold g_X12_back
      refine gv_put (gv_get ?_)
      rw [gup_ne (by decide), a2]
      refine gv_e1 (gv_get ?_)
      rw [gup_ne (by decide), k3]
      exact gv_cz ⟨by omega, by omega⟩ (fun h => absurd h c) (fun _ => gv_ret ⟨rfl, by omega, gup6902 (by decide), hno⟩)
end
