/-! THE TAPE -/
def byt (w s : Int) : Int := hf_and (hf_shr w s) 255
theorem byt_bits (x : BitVec 32) (s : Nat) (h : s ≤ 24) : (x >>> s) &&& 255#32 = (x.sshiftRight s) &&& 255#32 := by
  apply BitVec.eq_of_getLsbD_eq
  intro i hi
  rw [BitVec.getLsbD_and, BitVec.getLsbD_and, BitVec.getLsbD_ushiftRight, BitVec.getLsbD_sshiftRight]
  by_cases c : i < 8
  · rw [if_pos (by omega)]
    rw [show decide (32 ≤ i) = false from decide_eq_false (by omega)]
    rfl
  · have : ∀ j : Nat, j < 32 → 8 ≤ j → (255#32).getLsbD j = false := by decide
    rw [this i hi (by omega)]; simp
theorem byt_u (w : Int) {s : Int} (hs : s = 24 ∨ s = 16 ∨ s = 8 ∨ s = 0) : hf_and (hf_ushr w s) 255 = byt w s := by
  unfold byt hf_and hf_ushr hf_shr
  rw [Int32.ofInt_toInt, Int32.ofInt_toInt]
  congr 1
  apply Int32.toBitVec_inj.mp
  rw [Int32.toBitVec_and, Int32.toBitVec_and, Int32.toBitVec_shiftRight]
  show ((Int32.ofInt w).toUInt32 >>> _).toBitVec &&& _ = _
  rw [UInt32.toBitVec_shiftRight]
  rcases hs with e | e | e | e <;> subst e
  · exact byt_bits (Int32.ofInt w).toBitVec 24 (by decide)
  · exact byt_bits (Int32.ofInt w).toBitVec 16 (by decide)
  · exact byt_bits (Int32.ofInt w).toBitVec 8 (by decide)
  · exact byt_bits (Int32.ofInt w).toBitVec 0 (by decide)
theorem byt_in (w s : Int) : -2147483648 ≤ byt w s ∧ byt w s ≤ 2147483647 := by
  unfold byt hf_and
  generalize (Int32.ofInt (hf_shr w s) &&& Int32.ofInt 255) = x
  have h1 := Int32.minValue_le_toInt x
  have h2 := Int32.toInt_lt x
  have : Int32.minValue.toInt = -2147483648 := by decide
  omega

def b5 (x1 x2 x3 x4 x5 j : Int) : Int := byt (if 4 ≤ j then (if 8 ≤ j then (if 12 ≤ j then (if 16 ≤ j then x5 else x4) else x3) else x2) else x1) (24 - 8 * (j % 4))
/-- the tapes are one -/
def iTp (ν : gN) : Prop := (0 ≤ ν (-102) 0 ∧ ν (-102) 0 ≤ 400) ∧ ν (-6901) 0 = ν (-102) 0 ∧ ∀ i : Int, 0 ≤ i → i < 400 → (-2147483648 ≤ ν 7 i ∧ ν 7 i ≤ 2147483647) ∧ ν 70 i = ν 7 i
section
variable {T : gT} {ν : gN}
theorem s_X11_putBytes {w n : Int} (hn : ν (-102) 0 = n) (h : 0 ≤ n ∧ n ≤ 396) : gv (g_X11_putBytes w) T ν (fun _ ν' => gfr [7, -102] ν ν' ∧ ν' (-102) 0 = n + 4 ∧ ∀ i : Int, ν' 7 i = if n ≤ i ∧ i < n + 4 then byt w (24 - 8 * (i - n)) else ν 7 i) := by
  unfold g_X11_putBytes g_X11_putBytes_3
  refine gv_fx (fun (x : Int) τ => ∃ j : Int, (0 ≤ j ∧ j ≤ 4) ∧ x = 24 - 8 * j ∧ gfr [7, -102] ν τ ∧ τ (-102) 0 = n + j ∧ ∀ i : Int, τ 7 i = if n ≤ i ∧ i < n + j then byt w (24 - 8 * (i - n)) else ν 7 i) (fun x _ => (x + 8).toNat) ⟨0, by omega, by omega, gfr.refl _ _, by omega, fun i => by rw [if_neg (by omega)]⟩ (by decide) ?_
  intro rec x τ hI hrec
  obtain ⟨j, hj, hx, hf, h1, h2⟩ := hI
  subst hx
  unfold gB_X11_putBytes_3 g_X11_putBytes_43
  refine gv_cz ⟨by omega, by omega⟩ (fun c => ?_) (fun c => gv_get (gv_cb ⟨⟨by omega, by omega⟩, ⟨by omega, by omega⟩⟩ (fun c2 => by omega) (fun c2 => gv_get (gv_as ⟨by omega, by omega⟩ (gv_get (gv_put (gv_let (hrec _ _ ⟨j + 1, by omega, by omega, (hf.up (by decide)).up (by decide), ?_, fun i => ?_⟩ (by omega)))))))))
  · have e : j = 4 := by omega
    subst e
    exact gv_ret ⟨hf, h1, h2⟩
  · rw [gup_at, gup_ne (by decide)]; omega
  · rw [gup_ne (by decide), gup_same, h1]
    by_cases e : i = n + j
    · rw [if_pos e, if_pos (by omega), byt_u _ (by omega), show 24 - 8 * (i - n) = 24 - 8 * j by omega]
    · rw [if_neg e, h2 i]
      by_cases c3 : n ≤ i ∧ i < n + j
      · rw [if_pos c3, if_pos (by omega)]
      · rw [if_neg c3, if_neg (by omega)]
theorem s_X12_feed_23 {x1 x2 x3 x4 x5 n : Int} (hn : ν (-6901) 0 = n) (h : 0 ≤ n ∧ n ≤ 380) : gv (g_X12_feed_23 x1 x2 x3 x4 x5 0) T ν (fun r ν' => r = n + 20 ∧ gfr [70, -6901] ν ν' ∧ ν' (-6901) 0 = n + 20 ∧ ∀ i : Int, ν' 70 i = if n ≤ i ∧ i < n + 20 then b5 x1 x2 x3 x4 x5 (i - n) else ν 70 i) := by
  unfold g_X12_feed_23
  refine gv_fx (fun (j : Int) τ => (0 ≤ j ∧ j ≤ 20) ∧ gfr [70] ν τ ∧ ∀ i : Int, τ 70 i = if n ≤ i ∧ i < n + j then b5 x1 x2 x3 x4 x5 (i - n) else ν 70 i) (fun j _ => (20 - j).toNat) ⟨by omega, gfr.refl _ _, fun i => by rw [if_neg (by omega)]⟩ (by decide) ?_
  intro rec j τ hI hrec
  obtain ⟨hj, hf, h2⟩ := hI
  have e01 : τ (-6901) 0 = n := by rw [hf _ (by decide)]; exact hn
  have step : j < 20 → ∀ w : Int, w = (if 4 ≤ j then (if 8 ≤ j then (if 12 ≤ j then (if 16 ≤ j then x5 else x4) else x3) else x2) else x1) → gv (g_X12_feed_76 rec x1 x2 x3 x4 x5 j w) T τ (fun r ν' => r = n + 20 ∧ gfr [70, -6901] ν ν' ∧ ν' (-6901) 0 = n + 20 ∧ ∀ i : Int, ν' 70 i = if n ≤ i ∧ i < n + 20 then b5 x1 x2 x3 x4 x5 (i - n) else ν 70 i) := fun hl w hw => by
    unfold g_X12_feed_76
    refine gv_get (gv_rm ⟨⟨by omega, by omega⟩, ⟨by omega, by omega⟩, by omega⟩ (gv_as (by omega) (gv_let (hrec _ _ ⟨by omega, hf.up (by decide), fun i => ?_⟩ (by omega)))))
    rw [Int.tmod_eq_emod_of_nonneg (by omega), e01, gup_same]
    by_cases e : i = n + j
    · rw [if_pos e, if_pos (by omega), e, show n + j - n = j by omega]
      unfold b5
      rw [← hw]; rfl
    · rw [if_neg e, h2 i]
      by_cases c3 : n ≤ i ∧ i < n + j
      · rw [if_pos c3, if_pos (by omega)]
      · rw [if_neg c3, if_neg (by omega)]
  unfold gB_X12_feed_23
  refine gv_cb ⟨⟨by omega, by omega⟩, ⟨by omega, by omega⟩⟩ (fun c => gv_get (gv_put (gv_get (gv_ret ⟨?_, (hf.mono (by decide)).up (by decide), ?_, fun i => ?_⟩)))) (fun c => gv_cb ⟨⟨by omega, by omega⟩, ⟨by omega, by omega⟩⟩ (fun c1 => gv_cb ⟨⟨by omega, by omega⟩, ⟨by omega, by omega⟩⟩ (fun c2 => gv_cb ⟨⟨by omega, by omega⟩, ⟨by omega, by omega⟩⟩ (fun c3 => gv_cb ⟨⟨by omega, by omega⟩, ⟨by omega, by omega⟩⟩ (fun c4 => ?_) (fun c4 => ?_)) (fun c3 => ?_)) (fun c2 => ?_)) (fun c1 => ?_))
  · rw [gup_at, e01]
  · rw [gup_at, e01]
  · rw [gup_ne (by decide), h2 i, show j = 20 by omega]
  · exact step (by omega) _ (by rw [if_pos c1, if_pos c2, if_pos c3, if_pos c4])
  · exact step (by omega) _ (by rw [if_pos c1, if_pos c2, if_pos c3, if_neg c4])
  · exact step (by omega) _ (by rw [if_pos c1, if_pos c2, if_neg c3])
  · exact step (by omega) _ (by rw [if_pos c1, if_neg c2])
  · exact step (by omega) _ (by rw [if_neg c1])
def wTp : List Int := [7, -102, 70, -6901, -6902]
theorem c_feed {x1 x2 x3 x4 x5 : Int} (ht : iTp ν) : gb (g_X11_feed x1 x2 x3 x4 x5) (g_X12_feed x1 x2 x3 x4 x5) T ν (fun r ν' => (-1 ≤ r ∧ r ≤ 400) ∧ gfr wTp ν ν' ∧ iTp ν') := by
  obtain ⟨h1, h2, h3⟩ := ht
  unfold gb g_X11_feed g_X12_feed
  refine gv_get (gv_cb ⟨⟨by omega, by omega⟩, ⟨by omega, by omega⟩⟩ (fun c => ?_) (fun c => gv_ret (gv_put (gv_get ?_))))
  · refine gv_call (s_X11_putBytes (n := ν (-102) 0) rfl ⟨by omega, by omega⟩) (fun _ τ1 a1 => gv_call (s_X11_putBytes a1.2.1 ⟨by omega, by omega⟩) (fun _ τ2 a2 => gv_call (s_X11_putBytes a2.2.1 ⟨by omega, by omega⟩) (fun _ τ3 a3 => gv_call (s_X11_putBytes a3.2.1 ⟨by omega, by omega⟩) (fun _ τ4 a4 => gv_call (s_X11_putBytes a4.2.1 ⟨by omega, by omega⟩) (fun _ τ5 a5 => gv_get (gv_ret (gv_put (gv_get ?_))))))))
    have hf : gfr [7, -102] ν τ5 := a1.1.trans (a2.1.trans (a3.1.trans (a4.1.trans a5.1)))
    have e02 : τ5 (-102) 0 = ν (-102) 0 + 20 := by rw [a5.2.1]; omega
    have e01 : gup τ5 (-6902) 0 0 (-6901) 0 = ν (-102) 0 := by rw [gup_ne (by decide), hf _ (by decide)]; exact h2
    have e7 : ∀ i : Int, τ5 7 i = if ν (-102) 0 ≤ i ∧ i < ν (-102) 0 + 20 then b5 x1 x2 x3 x4 x5 (i - ν (-102) 0) else ν 7 i := fun i => by
      rw [a5.2.2 i, a4.2.2 i, a3.2.2 i, a2.2.2 i, a1.2.2 i]
      generalize ν (-102) 0 = n at h1 c
      unfold b5
      by_cases g5 : n + 16 ≤ i ∧ i < n + 20
      · rw [if_pos (by omega), if_pos (by omega), if_pos (by omega), if_pos (by omega), if_pos (by omega), if_pos (by omega), show 24 - 8 * ((i - n) % 4) = 24 - 8 * (i - (n + 4 + 4 + 4 + 4)) by omega]
      · rw [if_neg (by omega)]
        by_cases g4 : n + 12 ≤ i ∧ i < n + 16
        · rw [if_pos (by omega), if_pos (by omega), if_pos (by omega), if_pos (by omega), if_pos (by omega), if_neg (by omega), show 24 - 8 * ((i - n) % 4) = 24 - 8 * (i - (n + 4 + 4 + 4)) by omega]
        · rw [if_neg (by omega)]
          by_cases g3 : n + 8 ≤ i ∧ i < n + 12
          · rw [if_pos (by omega), if_pos (by omega), if_pos (by omega), if_pos (by omega), if_neg (by omega), show 24 - 8 * ((i - n) % 4) = 24 - 8 * (i - (n + 4 + 4)) by omega]
          · rw [if_neg (by omega)]
            by_cases g2 : n + 4 ≤ i ∧ i < n + 8
            · rw [if_pos (by omega), if_pos (by omega), if_pos (by omega), if_neg (by omega), show 24 - 8 * ((i - n) % 4) = 24 - 8 * (i - (n + 4)) by omega]
            · rw [if_neg (by omega)]
              by_cases g1 : n ≤ i ∧ i < n + 4
              · rw [if_pos (by omega), if_pos (by omega), if_neg (by omega), show 24 - 8 * ((i - n) % 4) = 24 - 8 * (i - n) by omega]
              · rw [if_neg (by omega), if_neg (by omega)]
    rw [e01]
    refine gv_cb ⟨⟨by omega, by omega⟩, ⟨by omega, by omega⟩⟩ (fun _ => (s_X12_feed_23 (n := ν (-102) 0) e01 ⟨by omega, by omega⟩).mono ?_) (fun c2 => by omega)
    intro r ν' hh
    obtain ⟨r1, r2, r3, r4⟩ := hh
    have hf2 : gfr wTp ν ν' := ((hf.mono (W' := wTp) (by decide)).up (by decide)).trans (r2.mono (by decide))
    have e02' : ν' (-102) 0 = ν (-102) 0 + 20 := by rw [r2 _ (by decide), gup_ne (by decide)]; exact e02
    refine ⟨by rw [r1, e02], by omega, hf2, by omega, by rw [r3, e02'], fun i i1 i2 => ?_⟩
    rw [r4 i, r2 7 (by decide), gup_ne (by decide), gup_ne (by decide), hf 70 (by decide), e7 i, (h3 i i1 i2).2]
    refine ⟨?_, rfl⟩
    by_cases g : ν (-102) 0 ≤ i ∧ i < ν (-102) 0 + 20
    · rw [if_pos g]; exact byt_in _ _
    · rw [if_neg g]; exact (h3 i i1 i2).1
  · have hf : gfr [-6902] ν (gup ν (-6902) 0 0) := (gfr.refl _ _).up (by decide)
    rw [hf _ (by decide), h2]
    refine gv_cb ⟨⟨by omega, by omega⟩, ⟨by omega, by omega⟩⟩ (fun c2 => absurd c2 c) (fun _ => gv_ret ⟨rfl, by decide, hf.mono (by decide), ?_⟩)
    unfold iTp
    rw [hf _ (by decide), hf _ (by decide), hf 7 (by decide), hf 70 (by decide)]
    exact ⟨h1, h2, h3⟩
theorem c_fault {x : Int} (a : -2147483648 ≤ x ∧ x ≤ 2147483647) (e1 : ν (-6911) 0 = ν (-811) 0) (e2 : ν (-6912) 0 = ν (-812) 0) : gb (g_X11_fault x) (g_X12_fault x) T ν (fun r ν' => (r = ν (-811) 0 ∨ r = ν (-812) 0 ∨ r = -1) ∧ gfr [-6902] ν ν') := by
  have hf : gfr [-6902] ν (gup ν (-6902) 0 0) := (gfr.refl _ _).up (by decide)
  unfold gb g_X11_fault g_X12_fault
  refine gv_ck a (gv_it (fun c => gv_get (gv_ret (gv_put (gv_cz a (fun h => absurd c h) (fun _ => gv_get (gv_ret ⟨?_, Or.inl rfl, hf⟩)))))) (fun c => gv_it (fun c2 => gv_get (gv_ret (gv_put (gv_cz a (fun _ => gv_cb ⟨a, by decide⟩ (fun h => absurd c2 h) (fun _ => gv_get (gv_ret ⟨?_, Or.inr (Or.inl rfl), hf⟩))) (fun h => absurd c h))))) (fun c2 => gv_ret (gv_put (gv_cz a (fun _ => gv_cb ⟨a, by decide⟩ (fun _ => gv_ret ⟨rfl, Or.inr (Or.inr rfl), hf⟩) (fun h => absurd c2 h)) (fun h => absurd c h))))))
  · rw [hf _ (by decide)]; exact e1
  · rw [hf _ (by decide)]; exact e2
/-- the plan that is read, in the reference and in the class, has as many lines and words -/
theorem c_count {x : Int} (a : -2147483648 ≤ x ∧ x ≤ 2147483647) (hs : iSt ν) (h1 : ν (-104) 0 = 18 ∨ ν (-104) 0 = 23) (h2 : ν (-6919) 0 = ν (-(100 * ν (-104) 0 + 0)) 0) (h3 : ν (-6920) 0 = ν (-(100 * ν (-104) 0 + 1)) 0) (h4 : ν (-6957) 0 = ν (-5300) 0) (b2 : 0 ≤ ν (-6919) 0 ∧ ν (-6919) 0 ≤ 12) (b3 : 0 ≤ ν (-6920) 0 ∧ ν (-6920) 0 ≤ 100000) (b4 : 0 ≤ ν (-6957) 0 ∧ ν (-6957) 0 ≤ 40) : gb (g_X11_count x) (g_X12_count x) T ν (fun r ν' => (-1 ≤ r ∧ r ≤ 100000) ∧ gfr [-6902] ν ν') := by
  have hf : gfr [-6902] ν (gup ν (-6902) 0 0) := (gfr.refl _ _).up (by decide)
  have htop := hs.1
  have hw : 0 ≤ gsum (ν 6) ((ν (-200) 0).toNat + 1) ∧ gsum (ν 6) ((ν (-200) 0).toNat + 1) ≤ 99 * ((ν (-200) 0).toNat + 1 : Nat) := ⟨gsum_nonneg _ (fun i hi => (hs.2.2.1 i (by omega) (by omega)).1), gsum_bound _ (fun i hi => (hs.2.2.1 i (by omega) (by omega)).2)⟩
  unfold gb g_X11_count
  refine gv_ck a (gv_it (fun c0 => gv_get (gv_ret ?_)) (fun c0 => gv_it (fun c1 => gv_get (gv_ck h1 (gv_get (gv_ret ?_)))) (fun c1 => gv_it (fun c2 => gv_get (gv_ck h1 (gv_get (gv_ret ?_)))) (fun c2 => gv_it (fun c3 => gv_get (gv_ret ?_)) (fun c3 => gv_it (fun c4 => gv_get (gv_ret ?_)) (fun c4 => gv_it (fun c5 => gv_get (gv_ret ?_)) (fun c5 => gv_it (fun c6 => gv_rd (d_X8_allWeights htop) (gv_ret ?_)) (fun c6 => gv_ret ?_))))))))
  all_goals unfold g_X12_count
  all_goals refine gv_put (gv_ck a ?_)
  · refine gv_it (fun _ => gv_get (gv_ret ⟨?_, by omega, hf⟩)) (fun h => absurd c0 h)
    rw [hf _ (by decide)]; exact hs.2.2.2.2.2.1
  · refine gv_it (fun h => absurd h c0) (fun _ => gv_it (fun _ => gv_get (gv_ret ⟨?_, by omega, hf⟩)) (fun h => absurd c1 h))
    rw [hf _ (by decide)]; exact h2
  · refine gv_it (fun h => absurd h c0) (fun _ => gv_it (fun h => absurd h c1) (fun _ => gv_it (fun _ => gv_get (gv_ret ⟨?_, by omega, hf⟩)) (fun h => absurd c2 h)))
    rw [hf _ (by decide)]; exact h3
  · refine gv_it (fun h => absurd h c0) (fun _ => gv_it (fun h => absurd h c1) (fun _ => gv_it (fun h => absurd h c2) (fun _ => gv_it (fun _ => gv_get (gv_ret ⟨?_, by omega, hf⟩)) (fun h => absurd c3 h))))
    rw [hf _ (by decide)]; exact h4
  · have := hs.2.2.2.1
    refine gv_it (fun h => absurd h c0) (fun _ => gv_it (fun h => absurd h c1) (fun _ => gv_it (fun h => absurd h c2) (fun _ => gv_it (fun h => absurd h c3) (fun _ => gv_it (fun _ => gv_get (gv_ret ⟨?_, by omega, hf⟩)) (fun h => absurd c4 h)))))
    rw [hf _ (by decide)]; exact hs.2.2.2.2.2.2.2.2.1
  · have := hs.2.2.2.2.1
    refine gv_it (fun h => absurd h c0) (fun _ => gv_it (fun h => absurd h c1) (fun _ => gv_it (fun h => absurd h c2) (fun _ => gv_it (fun h => absurd h c3) (fun _ => gv_it (fun h => absurd h c4) (fun _ => gv_it (fun _ => gv_get (gv_ret ⟨?_, by omega, hf⟩)) (fun h => absurd c5 h))))))
    rw [hf _ (by decide)]; exact hs.2.2.2.2.2.2.2.2.2
  · refine gv_it (fun h => absurd h c0) (fun _ => gv_it (fun h => absurd h c1) (fun _ => gv_it (fun h => absurd h c2) (fun _ => gv_it (fun h => absurd h c3) (fun _ => gv_it (fun h => absurd h c4) (fun _ => gv_it (fun h => absurd h c5) (fun _ => gv_it (fun _ => gv_get ?_) (fun h => absurd c6 h)))))))
    rw [hf _ (by decide), hs.2.2.2.2.2.1]
    have hd := d_X12_weightsOf (T := T) (ν := gup ν (-6902) 0 0) (x := ν (-200) 0) (by omega)
    refine gv_rd hd (gv_ret ⟨?_, by omega, hf⟩)
    rw [hf 74 (by decide), show (ν (-200) 0 + 1).toNat = (ν (-200) 0).toNat + 1 by omega]
    exact gsum_congr _ (fun i hi => hs.2.2.2.2.2.2.2.1 i (by omega) (by omega))
  · exact gv_it (fun h => absurd h c0) (fun _ => gv_it (fun h => absurd h c1) (fun _ => gv_it (fun h => absurd h c2) (fun _ => gv_it (fun h => absurd h c3) (fun _ => gv_it (fun h => absurd h c4) (fun _ => gv_it (fun h => absurd h c5) (fun _ => gv_it (fun h => absurd h c6) (fun _ => gv_ret ⟨rfl, by omega, hf⟩)))))))
end
