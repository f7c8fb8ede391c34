/-! THE TRIAL BY HAND: falls, back, asked -/
section
variable {T : gT} {ν : gN}
def hrK (ν : gN) (f : Nat) : Prop := f ≤ 100 ∧ ν (-6965) 0 = f ∧ (0 ≤ ν (-6964) 0 ∧ ν (-6964) 0 ≤ 40) ∧ ∀ i : Int, 0 ≤ i → i < f → (0 ≤ ν 101 i ∧ ν 101 i < 3) ∧ (1 ≤ ν 102 i ∧ ν 102 i ≤ 40) ∧ (0 ≤ ν 103 i ∧ ν 103 i ≤ 1000)
theorem d_X12_leftNow {k : Int} {f : Nat} (hk : 0 ≤ k ∧ k < 3) (h : hrK ν f) (hd : nD ν 71) : gd (g_X12_leftNow k) T ν (hlf (ν 72) (ν 71) (ν 101) (ν 102) (ν (-6964) 0) k f) := by
  obtain ⟨h1, h2, h3, h4⟩ := h
  unfold g_X12_leftNow g_X12_leftNow_9
  refine gd_al hk ?_
  refine gd_fx (fun (s : Int × Int) => ∃ j : Nat, s.2 = j ∧ j ≤ f ∧ s.1 = hlf (ν 72) (ν 71) (ν 101) (ν 102) (ν (-6964) 0) k j) (fun s => 100 - s.2.toNat) ⟨0, rfl, by omega, by unfold hlf; show ν 72 k = ν 72 k - 0; omega⟩ (by show 100 - (0 : Int).toNat < 100000; omega) ?_
  intro rec s hI hrec
  obtain ⟨j, e2, hj, e1⟩ := hI
  unfold gB_X12_leftNow_9 g_X12_leftNow_52
  refine gd_get ?_
  rw [e2, h2]
  refine gd_cb ⟨⟨by omega, by omega⟩, ⟨by omega, by omega⟩⟩ (fun c => ?_) (fun c => gd_al ⟨by omega, by omega⟩ ?_)
  · rw [e1, show j = f by omega]; exact gd_ret
  · obtain ⟨g1, g2, g3⟩ := h4 j (by omega) (by omega)
    have hz' : 100 - ((j : Int) + 1).toNat < 100 - s.2.toNat := by rw [e2]; omega
    refine gd_cb ⟨⟨by omega, by omega⟩, ⟨by omega, by omega⟩⟩ (fun c2 => gd_let (gd_let (hrec _ ⟨j + 1, by show (j : Int) + 1 = _; omega, by omega, ?_⟩ hz'))) (fun c2 => gd_get (gd_al ⟨by omega, by omega⟩ (gd_ck ⟨by omega, by omega⟩ (gd_rd (d_X12_breaks hk ⟨by omega, by omega⟩ ⟨by omega, by omega⟩ (hd k hk.1 hk.2)) ?_))))
    · show s.1 - 0 = _
      rw [hlf_succ, if_neg c2, e1]
    · have ek : ν 101 j = k := by omega
      by_cases cb : ν 102 j ≤ ν (-6964) 0 + ν 71 k
      · rw [if_pos cb]
        refine gd_cz (by decide) (fun _ => gd_let (gd_let (hrec _ ⟨j + 1, by show (j : Int) + 1 = _; omega, by omega, ?_⟩ hz'))) (fun h => absurd rfl h)
        show s.1 - 0 = _
        rw [hlf_succ, if_pos ek, e1]
        unfold hbk
        rw [ek, if_pos cb]
      · rw [if_neg cb]
        refine gd_cz (by decide) (fun h => absurd h (by decide)) (fun _ => gd_let (gd_let (hrec _ ⟨j + 1, by show (j : Int) + 1 = _; omega, by omega, ?_⟩ hz')))
        show s.1 - 1 = _
        rw [hlf_succ, if_pos ek, e1]
        unfold hbk
        rw [ek, if_neg cb]
theorem d_X12_bound {f : Nat} (b : Bool) (h : hrK ν f) (hd : nD ν 71) (ht : 1 ≤ ν (-6903) 0 ∧ ν (-6903) 0 ≤ 40) : gd (g_X12_bound (if b then 1 else 0)) T ν (if b then hhi (ν 71) (ν 101) (ν 102) (ν (-6964) 0) (ν (-6903) 0) f else hlo (ν 71) (ν 101) (ν 102) (ν (-6964) 0) f) := by
  obtain ⟨h1, h2, h3, h4⟩ := h
  have hin : ∀ i : Int, 0 ≤ i → i < f → (1 ≤ ν 102 i ∧ ν 102 i ≤ 40) ∧ (-9 ≤ ν 71 (ν 101 i) ∧ ν 71 (ν 101 i) ≤ 9) := fun i a c => ⟨(h4 i a c).2.1, hd _ (h4 i a c).1.1 (h4 i a c).1.2⟩
  have hloop : ∀ s0 : Int, s0 = (if b then ν (-6903) 0 else 0) → gd (g_X12_bound_15 (if b then 1 else 0) s0 0) T ν (if b then hhi (ν 71) (ν 101) (ν 102) (ν (-6964) 0) (ν (-6903) 0) f else hlo (ν 71) (ν 101) (ν 102) (ν (-6964) 0) f) := by
    intro s0 hs0
    unfold g_X12_bound_15
    refine gd_fx (fun (s : Int × Int) => ∃ j : Nat, s.2 = j ∧ j ≤ f ∧ s.1 = (if b then hhi (ν 71) (ν 101) (ν 102) (ν (-6964) 0) (ν (-6903) 0) j else hlo (ν 71) (ν 101) (ν 102) (ν (-6964) 0) j)) (fun s => 100 - s.2.toNat) ⟨0, rfl, by omega, hs0⟩ (by show 100 - (0 : Int).toNat < 100000; omega) ?_
    intro rec s hI hrec
    obtain ⟨j, e2, hj, e1⟩ := hI
    have hb1 := hlo_in (d := ν 71) (K := ν 101) (S := ν 102) (ν (-6964) 0) j (fun i a c => hin i a (by omega))
    have hb2 := hhi_in (d := ν 71) (K := ν 101) (S := ν 102) (ν (-6964) 0) (ν (-6903) 0) (by omega) j (fun i a c => hin i a (by omega))
    unfold gB_X12_bound_15 g_X12_bound_92 g_X12_bound_114
    refine gd_get ?_
    rw [e2, h2]
    refine gd_cb ⟨⟨by omega, by omega⟩, ⟨by omega, by omega⟩⟩ (fun c => ?_) (fun c => ?_)
    · rw [e1, show j = f by omega]; exact gd_ret
    · obtain ⟨g1, g2, g3⟩ := h4 j (by omega) (by omega)
      have g4 := hd _ g1.1 g1.2
      have hz' : 100 - ((j : Int) + 1).toNat < 100 - s.2.toNat := by rw [e2]; omega
      refine gd_al ⟨by omega, by omega⟩ (gd_al ⟨by omega, by omega⟩ (gd_al g1 (gd_let (gd_get (gd_al ⟨by omega, by omega⟩ (gd_al ⟨by omega, by omega⟩ (gd_ck ⟨by omega, by omega⟩ (gd_rd (d_X12_breaks g1 ⟨by omega, by omega⟩ ⟨by omega, by omega⟩ g4) ?_))))))))
      have eb : (if ν 102 j ≤ ν (-6964) 0 + ν 71 (ν 101 j) then (0 : Int) else 1) = hbk (ν 71) (ν 101) (ν 102) (ν (-6964) 0) j := rfl
      rw [eb, e1]
      cases b with
      | false =>
        refine gd_cz (by decide) (fun _ => gd_cz (by decide) (fun h => absurd rfl h) (fun _ => ?_)) (fun h => absurd rfl h)
        rcases hbk01 (ν 71) (ν 101) (ν 102) (ν (-6964) 0) j with cb | cb
        · rw [cb]
          refine gd_cz (by decide) (fun h => absurd rfl h) (fun _ => gd_ck ⟨⟨by omega, by omega⟩, ⟨?_, ?_⟩⟩ (gd_let (gd_let (hrec _ ⟨j + 1, by show (j : Int) + 1 = _; omega, by omega, ?_⟩ hz'))))
          · show -2147483648 ≤ hlo (ν 71) (ν 101) (ν 102) (ν (-6964) 0) j; omega
          · show hlo (ν 71) (ν 101) (ν 102) (ν (-6964) 0) j ≤ 2147483647; omega
          · show (if ν 102 j - ν 71 (ν 101 j) ≤ hlo (ν 71) (ν 101) (ν 102) (ν (-6964) 0) j then hlo (ν 71) (ν 101) (ν 102) (ν (-6964) 0) j else ν 102 j - ν 71 (ν 101 j)) = (if hbk (ν 71) (ν 101) (ν 102) (ν (-6964) 0) j = 0 then max (hlo (ν 71) (ν 101) (ν 102) (ν (-6964) 0) j) (ν 102 j - ν 71 (ν 101 j)) else hlo (ν 71) (ν 101) (ν 102) (ν (-6964) 0) j)
            rw [if_pos cb]
            split <;> omega
        · rw [cb]
          refine gd_cz (by decide) (fun _ => gd_let (hrec _ ⟨j + 1, by show (j : Int) + 1 = _; omega, by omega, ?_⟩ hz')) (fun h => absurd (by decide) h)
          show hlo (ν 71) (ν 101) (ν 102) (ν (-6964) 0) j = (if hbk (ν 71) (ν 101) (ν 102) (ν (-6964) 0) j = 0 then max (hlo (ν 71) (ν 101) (ν 102) (ν (-6964) 0) j) (ν 102 j - ν 71 (ν 101 j)) else hlo (ν 71) (ν 101) (ν 102) (ν (-6964) 0) j)
          rw [if_neg (by omega)]
      | true =>
        refine gd_cz (by decide) (fun h => absurd h (by decide)) (fun _ => ?_)
        rcases hbk01 (ν 71) (ν 101) (ν 102) (ν (-6964) 0) j with cb | cb
        · rw [cb]
          refine gd_cz (by decide) (fun _ => gd_cz (by decide) (fun _ => gd_let (hrec _ ⟨j + 1, by show (j : Int) + 1 = _; omega, by omega, ?_⟩ hz')) (fun h => absurd (by decide) h)) (fun h => absurd rfl h)
          show hhi (ν 71) (ν 101) (ν 102) (ν (-6964) 0) (ν (-6903) 0) j = (if hbk (ν 71) (ν 101) (ν 102) (ν (-6964) 0) j = 0 then hhi (ν 71) (ν 101) (ν 102) (ν (-6964) 0) (ν (-6903) 0) j else min (hhi (ν 71) (ν 101) (ν 102) (ν (-6964) 0) (ν (-6903) 0) j) (ν 102 j - ν 71 (ν 101 j) - 1))
          rw [if_pos cb]
        · rw [cb]
          refine gd_cz (by decide) (fun h => absurd h (by decide)) (fun _ => gd_ck ⟨⟨by omega, by omega⟩, ⟨?_, ?_⟩⟩ (gd_let (gd_cz (by decide) (fun _ => gd_let (hrec _ ⟨j + 1, by show (j : Int) + 1 = _; omega, by omega, ?_⟩ hz')) (fun h => absurd (by decide) h))))
          · show -2147483648 ≤ hhi (ν 71) (ν 101) (ν 102) (ν (-6964) 0) (ν (-6903) 0) j; omega
          · show hhi (ν 71) (ν 101) (ν 102) (ν (-6964) 0) (ν (-6903) 0) j ≤ 2147483647; omega
          · show (if hhi (ν 71) (ν 101) (ν 102) (ν (-6964) 0) (ν (-6903) 0) j ≤ ν 102 j - ν 71 (ν 101 j) - 1 then hhi (ν 71) (ν 101) (ν 102) (ν (-6964) 0) (ν (-6903) 0) j else ν 102 j - ν 71 (ν 101 j) - 1) = (if hbk (ν 71) (ν 101) (ν 102) (ν (-6964) 0) j = 0 then hhi (ν 71) (ν 101) (ν 102) (ν (-6964) 0) (ν (-6903) 0) j else min (hhi (ν 71) (ν 101) (ν 102) (ν (-6964) 0) (ν (-6903) 0) j) (ν 102 j - ν 71 (ν 101 j) - 1))
            rw [if_neg (show ¬ hbk (ν 71) (ν 101) (ν 102) (ν (-6964) 0) j = 0 by omega)]
            split <;> omega
  unfold g_X12_bound g_X12_bound_12
  cases b with
  | false => exact gd_cz (by decide) (fun _ => hloop 0 rfl) (fun h => absurd rfl h)
  | true => exact gd_cz (by decide) (fun h => absurd h (by decide)) (fun _ => gd_get (hloop _ rfl))
theorem d_X12_now_98 {f : Nat} (h : hrK ν f) : gd (g_X12_now_98 0 0) T ν (gsum (ν 103) f) := by
  obtain ⟨h1, h2, h3, h4⟩ := h
  unfold g_X12_now_98
  refine gd_fx (fun (s : Int × Int) => ∃ j : Nat, s.2 = j ∧ j ≤ f ∧ s.1 = gsum (ν 103) j) (fun s => 100 - s.2.toNat) ⟨0, rfl, by omega, rfl⟩ (by show 100 - (0 : Int).toNat < 100000; omega) ?_
  intro rec s hI hrec
  obtain ⟨j, e2, hj, e1⟩ := hI
  unfold gB_X12_now_98
  refine gd_get ?_
  rw [e2, h2, e1]
  refine gd_cb ⟨⟨by omega, by omega⟩, ⟨by omega, by omega⟩⟩ (fun c => ?_) (fun c => gd_al ⟨by omega, by omega⟩ (gd_let (gd_let (hrec _ ⟨j + 1, by show (j : Int) + 1 = _; omega, by omega, rfl⟩ (by show 100 - ((j : Int) + 1).toNat < 100 - s.2.toNat; rw [e2]; omega)))))
  rw [show j = f by omega]; exact gd_ret
theorem hdK.r {f : Nat} (h : hdK ν f) : hrK ν f := ⟨h.1, h.2.2.1, by rw [h.2.2.2.2.1]; exact h.2.2.2.1, h.2.2.2.2.2.1⟩
theorem hdK.in {f : Nat} (h : hdK ν f) (hs : iSt ν) : ∀ n : Nat, n ≤ f → (∀ i : Int, 0 ≤ i → i < n → (1 ≤ ν 102 i ∧ ν 102 i ≤ 40) ∧ (-9 ≤ ν 3 (ν 101 i) ∧ ν 3 (ν 101 i) ≤ 9)) := fun n hn i a b => by
  have := h.2.2.2.2.2.1 i a (by omega)
  exact ⟨this.2.1, (hs.2.1 _ this.1.1 this.1.2).1⟩
/-- asked -/
theorem gv_gd {m : gM Int} {v : Int} {Q : Int → gN → Prop} (h : gd m T ν v) (hq : Q v ν) : gv m T ν Q := ⟨v, ν, h, hq⟩
theorem gsum_103 {f : Nat} (h : hrK ν f) : 0 ≤ gsum (ν 103) f ∧ gsum (ν 103) f ≤ 100000 := by
  have h1 := gsum_nonneg (f := ν 103) f (fun i hi => (h.2.2.2 i (by omega) (by omega)).2.2.1)
  have h2 := gsum_bound (f := ν 103) (c := 1000) f (fun i hi => (h.2.2.2 i (by omega) (by omega)).2.2.2)
  have := h.1
  omega
theorem c_now {w : Int} (hw : -2147483648 ≤ w ∧ w ≤ 2147483647) (hs : iSt ν) (hh : iHd ν) : gb (g_X11_now w) (g_X12_now w) T ν (fun r ν' => (-100 ≤ r ∧ r ≤ 100000) ∧ gfr [-6902] ν ν') := by
  have fr : gfr [-6902] ν (gup ν (-6902) 0 0) := (gfr.refl _ _).up (by decide)
  unfold gb g_X11_now
  refine gv_get ?_
  rcases hh with ⟨a1, a2⟩ | ⟨a1, a2, f, hf⟩
  · rw [a1]
    refine gv_c0 (gv_ret ?_)
    unfold g_X12_now
    refine gv_put (gv_get ?_)
    rw [gup_ne (by decide), a2]
    exact gv_c0 (gv_ret ⟨rfl, by omega, fr⟩)
  · rw [a1]
    have hr := hf.r
    have hr1 : hrK (gup ν (-6902) 0 0) f := by
      unfold hrK
      simp (disch := decide) only [gup_ne]
      exact hr
    have hd1 : nD (gup ν (-6902) 0 0) 71 := by unfold nD; rw [gup_ne (by decide)]; exact hs.d71
    have ht1 : 1 ≤ gup ν (-6902) 0 0 (-6903) 0 ∧ gup ν (-6902) 0 0 (-6903) 0 ≤ 40 := by rw [gup_ne (by decide)]; exact hs.top
    have hin := hf.in hs f (by omega)
    have b1 := hlo_in (d := ν 3) (K := ν 101) (S := ν 102) (ν (-6108) 0) f hin
    have b2 := hhi_in (d := ν 3) (K := ν 101) (S := ν 102) (ν (-6108) 0) (ν (-200) 0) (by have := hs.1; omega) f hin
    have b3 := gsum_103 hr
    obtain ⟨k1, k2, k3, k4, k5, k6, k7, k8, k9, k10, k11⟩ := hf
    have hcg : ∀ i : Int, 0 ≤ i → i < f → ν 101 i = ν 101 i ∧ ν 102 i = ν 102 i ∧ ν 3 (ν 101 i) = ν 71 (ν 101 i) := fun i a b => ⟨rfl, rfl, ((hs.2.2.2.2.2.2.1 _ (k6 i a b).1.1 (k6 i a b).1.2).1).symm⟩
    refine gv_c1 (gv_ck hw ?_)
    have hnow : ∀ v : Int, gd (git (w = 0) (gbd (g_X12_bound 0) (fun v58 => gret v58)) (git (w = 1) (gbd (g_X12_bound 1) (fun v64 => gret v64)) (git (w = 2) (gget (-6965) (fun v69 => gret v69)) (git (w = 3) (gbd (g_X12_leftNow 0) (fun v75 => gbd (g_X12_leftNow 1) (fun v81 => gbd (g_X12_leftNow 2) (fun v90 => gret (v75 + 5 * v81 + 25 * v90))))) (git (w = 4) (g_X12_now_98 0 0) (git (w = 5) (gget (-6964) (fun v124 => gret v124)) (gret (-1)))))))) T (gup ν (-6902) 0 0) v → (-100 ≤ v ∧ v ≤ 100000) → gv (g_X12_now w) T ν (fun r2 ν2 => r2 = v ∧ (-100 ≤ v ∧ v ≤ 100000) ∧ gfr [-6902] ν ν2) := fun v hv hb => by
      unfold g_X12_now
      refine gv_put (gv_get ?_)
      rw [gup_ne (by decide), a2]
      exact gv_c1 (gv_ck hw (gv_gd hv ⟨rfl, hb, fr⟩))
    refine gv_it (fun c => gv_get (gv_ret (hnow _ ?_ (by omega)))) (fun c0 => ?_)
    · refine gd_it (fun _ => ?_) (fun h => absurd c h)
      have := d_X12_bound (T := T) false hr1 hd1 ht1
      refine gd_rd this ?_
      show gd (gret (hlo (gup ν (-6902) 0 0 71) (gup ν (-6902) 0 0 101) (gup ν (-6902) 0 0 102) (gup ν (-6902) 0 0 (-6964) 0) f)) T _ _
      simp (disch := decide) only [gup_ne]
      rw [k8, k5, hlo_congr (ν (-6108) 0) f hcg]
      exact gd_ret
    refine gv_it (fun c => gv_get (gv_ret (hnow _ ?_ (by omega)))) (fun c1 => ?_)
    · refine gd_it (fun h => absurd h c0) (fun _ => gd_it (fun _ => ?_) (fun h => absurd c h))
      have := d_X12_bound (T := T) true hr1 hd1 ht1
      refine gd_rd this ?_
      show gd (gret (hhi (gup ν (-6902) 0 0 71) (gup ν (-6902) 0 0 101) (gup ν (-6902) 0 0 102) (gup ν (-6902) 0 0 (-6964) 0) (gup ν (-6902) 0 0 (-6903) 0) f)) T _ _
      simp (disch := decide) only [gup_ne]
      rw [k9, k5, hs.2.2.2.2.2.1, hhi_congr (ν (-6108) 0) (ν (-200) 0) f hcg]
      exact gd_ret
    refine gv_it (fun c => gv_get (gv_ret (hnow _ ?_ (by omega)))) (fun c2 => ?_)
    · refine gd_it (fun h => absurd h c0) (fun _ => gd_it (fun h => absurd h c1) (fun _ => gd_it (fun _ => gd_get ?_) (fun h => absurd c h)))
      rw [gup_ne (by decide), k3, k2]; exact gd_ret
    refine gv_it (fun c => ?_) (fun c3 => ?_)
    · unfold g_X1_leftCode_o61
      have l0 := k11 0 (by decide) (by decide)
      have l1 := k11 1 (by decide) (by decide)
      have l2 := k11 2 (by decide) (by decide)
      have q0 := hlf_le (p := ν 4) (d := ν 3) (K := ν 101) (S := ν 102) (ν (-6108) 0) 0 f
      have q1 := hlf_le (p := ν 4) (d := ν 3) (K := ν 101) (S := ν 102) (ν (-6108) 0) 1 f
      have q2 := hlf_le (p := ν 4) (d := ν 3) (K := ν 101) (S := ν 102) (ν (-6108) 0) 2 f
      have p0 := (hs.2.1 0 (by decide) (by decide)).2.1
      have p1 := (hs.2.1 1 (by decide) (by decide)).2.1
      have p2 := (hs.2.1 2 (by decide) (by decide)).2.1
      refine gv_bd (gv_al (by decide) (gv_al (by decide) (gv_al (by decide) (gv_ret (gv_ret (hnow _ ?_ (by omega)))))))
      refine gd_it (fun h => absurd h c0) (fun _ => gd_it (fun h => absurd h c1) (fun _ => gd_it (fun h => absurd h c2) (fun _ => gd_it (fun _ => ?_) (fun h => absurd c h))))
      refine gd_rd (d_X12_leftNow (by decide) hr1 hd1) (gd_rd (d_X12_leftNow (by decide) hr1 hd1) (gd_rd (d_X12_leftNow (by decide) hr1 hd1) ?_))
      simp (disch := decide) only [gup_ne]
      have eq : ∀ k : Int, 0 ≤ k → k < 3 → ν 62 k = hlf (ν 72) (ν 71) (ν 101) (ν 102) (ν (-6964) 0) k f := fun k a b => by
        rw [(k11 k a b).1, k5]
        exact hlf_congr _ _ _ ((hs.2.2.2.2.2.2.1 k a b).2.1).symm hcg
      rw [← eq 0 (by decide) (by decide), ← eq 1 (by decide) (by decide), ← eq 2 (by decide) (by decide)]
      exact gd_ret
    refine gv_it (fun c => gv_get (gv_ret (hnow _ ?_ (by omega)))) (fun c4 => ?_)
    · refine gd_it (fun h => absurd h c0) (fun _ => gd_it (fun h => absurd h c1) (fun _ => gd_it (fun h => absurd h c2) (fun _ => gd_it (fun h => absurd h c3) (fun _ => gd_it (fun _ => ?_) (fun h => absurd c h)))))
      have := d_X12_now_98 (T := T) hr1
      rw [gup_ne (by decide), ← k10] at this
      exact this
    refine gv_it (fun c => gv_get (gv_ret (hnow _ ?_ (by omega)))) (fun c5 => gv_ret (hnow _ ?_ (by omega)))
    · refine gd_it (fun h => absurd h c0) (fun _ => gd_it (fun h => absurd h c1) (fun _ => gd_it (fun h => absurd h c2) (fun _ => gd_it (fun h => absurd h c3) (fun _ => gd_it (fun h => absurd h c4) (fun _ => gd_it (fun _ => gd_get ?_) (fun h => absurd c h))))))
      rw [gup_ne (by decide), k5]; exact gd_ret
    · exact gd_it (fun h => absurd h c0) (fun _ => gd_it (fun h => absurd h c1) (fun _ => gd_it (fun h => absurd h c2) (fun _ => gd_it (fun h => absurd h c3) (fun _ => gd_it (fun h => absurd h c4) (fun _ => gd_it (fun h => absurd h c5) (fun _ => gd_ret))))))
end
