/-! EDGE: the strides -/
theorem mul_abs {x y X Y : Int} (hx : -X ≤ x ∧ x ≤ X) (hy : 0 ≤ y ∧ y ≤ Y) (hX : 0 ≤ X) : -(X * Y) ≤ x * y ∧ x * y ≤ X * Y := by
  have h1 : x * y ≤ X * y := Int.mul_le_mul_of_nonneg_right hx.2 hy.1
  have h2 : X * y ≤ X * Y := Int.mul_le_mul_of_nonneg_left hy.2 hX
  have h3 : -X * y ≤ x * y := Int.mul_le_mul_of_nonneg_right hx.1 hy.1
  rw [Int.neg_mul] at h3
  omega
def sbV (d : Int → Int) (mean a m b : Int) : Int := if d b = -2 then 0 else if d b = d a then 1 else if mean = 0 then 0 else if d m = -2 then 0 else if (d m - d a) * (b - m) = (d b - d m) * (m - a) then 1 else 0
def lgI (x : Int) : Int := if x < 2 then 0 else if x < 4 then 1 else if x < 8 then 2 else if x < 16 then 3 else if x < 32 then 4 else if x < 64 then 5 else 6
theorem lgI_in (x : Int) : 0 ≤ lgI x ∧ lgI x ≤ 6 := by unfold lgI; repeat' split
                                                       all_goals omega
theorem lgI_half {x : Int} (h : 2 ≤ x) (h2 : x < 128) : lgI (x / 2) + 1 = lgI x := by
  unfold lgI
  repeat' split
  all_goals omega
section
variable {T : gT} {ν : gN}
theorem d_X0_staysBetween {a m b : Int} (ha : 0 ≤ a ∧ a ≤ m) (hm : m ≤ b) (hb : b ≤ 99) (h06 : 0 ≤ ν (-3906) 0 ∧ ν (-3906) 0 ≤ 1) (hd : ∀ x : Int, 0 ≤ x → x ≤ 99 → -2 ≤ ν 45 x ∧ ν 45 x ≤ 1000000000) : gd (g_X0_staysBetween a m b) T ν (sbV (ν 45) (ν (-3906) 0) a m b) := by
  have da := hd a (by omega) (by omega)
  have dm := hd m (by omega) (by omega)
  have db := hd b (by omega) (by omega)
  have p1 := mul_abs (x := ν 45 m - ν 45 a) (X := 1000000002) (y := b - m) (Y := 99) (by omega) (by omega) (by decide)
  have p2 := mul_abs (x := ν 45 b - ν 45 m) (X := 1000000002) (y := m - a) (Y := 99) (by omega) (by omega) (by decide)
  unfold g_X0_staysBetween sbV
  refine gd_al ⟨by omega, by omega⟩ (gd_cb ⟨⟨by omega, by omega⟩, ⟨by omega, by omega⟩⟩ (fun c1 => gd_al ⟨by omega, by omega⟩ (gd_al ⟨by omega, by omega⟩ (gd_cb ⟨⟨by omega, by omega⟩, ⟨by omega, by omega⟩⟩ (fun c2 => gd_get (gd_cz ⟨by omega, by omega⟩ (fun c3 => ?_) (fun c3 => gd_al ⟨by omega, by omega⟩ (gd_cb ⟨⟨by omega, by omega⟩, ⟨by omega, by omega⟩⟩ (fun c4 => gd_al ⟨by omega, by omega⟩ (gd_al ⟨by omega, by omega⟩ (gd_ck ⟨by omega, by omega⟩ (gd_let (gd_al ⟨by omega, by omega⟩ (gd_al ⟨by omega, by omega⟩ (gd_ck ⟨by omega, by omega⟩ (gd_let (gd_ck ⟨by omega, by omega⟩ (gd_ck ⟨by omega, by omega⟩ (gd_ck ⟨⟨by omega, by omega⟩, ⟨by omega, by omega⟩⟩ (gd_let ?_)))))))))))) (fun c4 => ?_))))) (fun c2 => ?_)))) (fun c1 => ?_))
  · rw [if_neg c1, if_neg c2, if_pos c3]; exact gd_ret
  · rw [if_neg c1, if_neg c2, if_neg c3, if_neg c4]
    by_cases c5 : (ν 45 m - ν 45 a) * (b - m) = (ν 45 b - ν 45 m) * (m - a)
    · rw [if_pos c5, if_neg (fun h => h c5)]; exact gd_ck (Or.inr rfl) gd_ret
    · rw [if_neg c5, if_pos c5]; exact gd_ck (Or.inl rfl) gd_ret
  · rw [if_neg c1, if_neg c2, if_neg c3, if_pos (by omega)]; exact gd_ret
  · rw [if_neg c1, if_pos (by omega)]; exact gd_ret
  · rw [if_pos (by omega)]; exact gd_ret
/-- where the search stands -/
def edI (T : gT) (ν0 ν : gN) (p : bP) (k code kept stride edge turn : Int) : Prop := eI T ν0 ν p k code ∧ (bPr p k ≤ kept ∧ kept ≤ 99) ∧ (1 ≤ stride ∧ stride ≤ 396) ∧ (kept < 99 → stride ≤ 198) ∧ ν 45 kept ≠ -1 ∧ (∀ q : Int, bPr p k ≤ q → q ≤ kept → (bf (pw p k q) 0 (bTop p) code).2 = (bf p 0 (bTop p) code).2) ∧ 0 ≤ turn ∧ ((edge = 100 ∧ turn + 8 * (99 - kept) + lgI (min stride (99 - kept)) ≤ 798) ∨ (edge = kept + 1 ∧ edge ≤ 99 ∧ (bf (pw p k edge) 0 (bTop p) code).2 ≠ (bf p 0 (bTop p) code).2 ∧ turn ≤ 900))
theorem s_X0_edgeOf_51 {ν0 : gN} {p : bP} {k code kept0 : Int} (hH : eH T ν0 p k code) (hmn : p.1 = true ↔ ¬ ν0 (-3906) 0 = 0) (h0 : edI T ν0 ν p k code kept0 1 100 0) : gv (g_X0_edgeOf_51 k code kept0 1 100 0) T ν (fun r ν' => edR p k (bTop p) code r ∧ (100 < r → False) ∧ ∃ ν1, eI T ν0 ν1 p k code ∧ ν' = gup ν1 (-3903) 0 (-1)) := by
  obtain ⟨hok, hk, hcode, hpk, hR, h06, h13, h14, hfin, h05⟩ := id hH
  have htop := hok.1
  have hwas := (hok.2.2.2.1 k hk).2
  have hfq : ∀ x : Int, 0 ≤ x → x ≤ 99 → bv (pw p k x) 0 (bTop p) code < 1000000000000 := fun x x1 x2 => bv_fin hok (k := k) (q := bPr p k) (q' := x) hwas ⟨x1, x2⟩ _ 0 (bTop p) code rfl (by omega) (by omega) (by omega) (by rw [pw_self]; exact hfin)
  have hv90 : ∀ x : Int, 0 ≤ x → x ≤ 99 → 0 ≤ bv (pw p k x) 0 (bTop p) code ∧ bv (pw p k x) 0 (bTop p) code ≤ 90596880 := fun x x1 x2 => by
    have := bv_90 (pw_ok hok (k := k) (q := x) ⟨x1, x2⟩) (low := 0) (high := bTop p) (c := code) (by omega) (by omega) (by omega)
    have := hfq x x1 x2
    omega
  obtain ⟨k0, e0, hF0, hbf0⟩ := bf_first (p := p) (low := 0) (high := bTop p) (c := code) (by omega) hfin
  have hFx : ∀ x : Int, 0 ≤ x → x ≤ 99 → ((bf (pw p k x) 0 (bTop p) code).2 = (bf p 0 (bTop p) code).2 ↔ Fst (pw p k x) 0 (bTop p) code k0 e0) := fun x x1 x2 => by
    rw [hbf0]
    exact bf_iff (p := pw p k x) (by omega) hF0.1 ⟨hF0.2.1, hF0.2.2.1⟩ (hfq x x1 x2)
  unfold g_X0_edgeOf_51
  refine gv_fx (fun (q : Int × Int × Int × Int) τ => edI T ν0 τ p k code q.1 q.2.1 q.2.2.1 q.2.2.2) (fun q _ => (2000 - q.2.2.2).toNat) h0 (by show (2000 - (0 : Int)).toNat < 100000; omega) ?_
  intro rec q τ hI hrec
  obtain ⟨kept, stride, edge, turn⟩ := q
  replace hI : edI T ν0 τ p k code kept stride edge turn := hI
  replace hrec : ∀ (s' : Int × Int × Int × Int) (τ' : gN), edI T ν0 τ' p k code s'.1 s'.2.1 s'.2.2.1 s'.2.2.2 → (2000 - s'.2.2.2).toNat < (2000 - turn).toNat → gv (rec s') T τ' (fun r ν' => edR p k (bTop p) code r ∧ (100 < r → False) ∧ ∃ ν1, eI T ν0 ν1 p k code ∧ ν' = gup ν1 (-3903) 0 (-1)) := hrec
  obtain ⟨hE, hkp, hst, hst2, hkn, hall, htn, hed⟩ := hI
  show gv (gB_X0_edgeOf_51 k code rec kept stride edge turn) T τ _
  have hlg := lgI_in (min stride (99 - kept))
  have hturn : turn ≤ 900 := by rcases hed with g | g <;> omega
  have hedin : 0 ≤ edge ∧ edge ≤ 100 := by rcases hed with g | g <;> omega
  have hout : (99 ≤ kept ∨ edge ≤ 99) → gv (g_X0_edgeOf_215 edge) T τ (fun r ν' => edR p k (bTop p) code r ∧ (100 < r → False) ∧ ∃ ν1, eI T ν0 ν1 p k code ∧ ν' = gup ν1 (-3903) 0 (-1)) := fun hx => by
    unfold g_X0_edgeOf_215
    refine gv_put (gv_ret ⟨?_, fun h => by omega, τ, hE, rfl⟩)
    rcases hed with g | g
    · right
      exact ⟨g.1, fun x x1 x2 => hall x (by omega) (by omega)⟩
    · left
      exact ⟨by omega, g.2.1, g.2.2.1, fun x x1 x2 => hall x (by omega) (by omega)⟩
  unfold gB_X0_edgeOf_51
  refine gv_cb ⟨⟨by omega, by omega⟩, ⟨by omega, by omega⟩⟩ (fun c1 => by omega) (fun c1 => gv_cb ⟨⟨by omega, by omega⟩, ⟨by omega, by omega⟩⟩ (fun c2 => hout (Or.inl c2)) (fun c2 => gv_cb ⟨⟨by omega, by omega⟩, ⟨by omega, by omega⟩⟩ (fun c3 => hout (Or.inr c3)) (fun c3 => gv_ck ⟨⟨by omega, by omega⟩, ⟨by omega, by omega⟩⟩ (gv_let (gv_dv ⟨⟨by omega, by omega⟩, ⟨by omega, by omega⟩, by omega⟩ ?_)))))
  have he100 : edge = 100 ∧ turn + 8 * (99 - kept) + lgI (min stride (99 - kept)) ≤ 798 := by rcases hed with g | g; exact g; omega
  have hstr := hst2 (by omega)
  generalize hr : min 99 (kept + stride) = reach
  have hre : kept + 1 ≤ reach ∧ reach ≤ 99 ∧ reach - kept = min stride (99 - kept) := by omega
  rw [Int.tdiv_eq_ediv_of_nonneg (by omega)]
  generalize hmid : (kept + reach) / 2 = mid
  have hmi : kept ≤ mid ∧ mid ≤ reach ∧ (reach ≠ kept + 1 → kept < mid ∧ mid < reach) := by omega
  have hdv : ∀ (σ : gN), eI T ν0 σ p k code → ∀ x : Int, 0 ≤ x → x ≤ 99 → -2 ≤ σ 45 x ∧ σ 45 x ≤ 1000000000 := fun σ hσ x x1 x2 => by
    have := hv90 x x1 x2
    rcases hσ.2.2.2.2 x x1 x2 with g | g
    · omega
    · rw [g]; split <;> omega
  have hknow : ∀ (σ : gN), eI T ν0 σ p k code → ∀ x : Int, 0 ≤ x → x ≤ 99 → σ 45 x ≠ -1 → (σ 45 x = -2 ↔ ¬ (bf (pw p k x) 0 (bTop p) code).2 = (bf p 0 (bTop p) code).2) ∧ ((bf (pw p k x) 0 (bTop p) code).2 = (bf p 0 (bTop p) code).2 → σ 45 x = bv (pw p k x) 0 (bTop p) code) := fun σ hσ x x1 x2 hn => by
    have hv := hv90 x x1 x2
    rcases hσ.2.2.2.2 x x1 x2 with g | g
    · exact absurd g hn
    · by_cases cF : (bf (pw p k x) 0 (bTop p) code).2 = (bf p 0 (bTop p) code).2
      · rw [if_pos cF] at g
        exact ⟨⟨fun h => by omega, fun h => absurd cF h⟩, fun _ => g⟩
      · rw [if_neg cF] at g
        exact ⟨⟨fun _ => cF, fun _ => g⟩, fun h => absurd h cF⟩
  have hKF := hall kept hkp.1 (Int.le_refl _)
  have h142 : ∀ σ : gN, eI T ν0 σ p k code → σ 45 kept ≠ -1 → σ 45 reach ≠ -1 → (¬ ν0 (-3906) 0 = 0 → σ 45 reach ≠ -2 → σ 45 reach ≠ σ 45 kept → σ 45 mid ≠ -1) → gv (g_X0_edgeOf_142 rec k code kept stride edge turn reach mid) T σ (fun r ν' => edR p k (bTop p) code r ∧ (100 < r → False) ∧ ∃ ν1, eI T ν0 ν1 p k code ∧ ν' = gup ν1 (-3903) 0 (-1)) := fun σ hσ hnk hnr hnm => by
    have dr := hdv σ hσ reach (by omega) (by omega)
    have kr := hknow σ hσ reach (by omega) (by omega) hnr
    have kk := hknow σ hσ kept (by omega) (by omega) hnk
    have eM := hσ.n hH (b := -3906) (by decide) (by decide)
    have h189 : (∀ x : Int, kept ≤ x → x ≤ reach → (bf (pw p k x) 0 (bTop p) code).2 = (bf p 0 (bTop p) code).2) → gv (g_X0_edgeOf_189 rec k code stride edge turn reach) T σ (fun r ν' => edR p k (bTop p) code r ∧ (100 < r → False) ∧ ∃ ν1, eI T ν0 ν1 p k code ∧ ν' = gup ν1 (-3903) 0 (-1)) := fun hx => by
      unfold g_X0_edgeOf_189 g_X0_edgeOf_209
      have hl2 := lgI_in (min (stride * 2) (99 - reach))
      refine gv_let (gv_let (hrec _ _ ⟨hσ, ⟨by show bPr p k ≤ reach; omega, by show reach ≤ 99; omega⟩, ⟨by show 1 ≤ stride * 2; omega, by show stride * 2 ≤ 396; omega⟩, fun h => ?_, hnr, fun x x1 x2 => ?_, by show 0 ≤ turn + 1; omega, Or.inl ⟨he100.1, ?_⟩⟩ (by show (2000 - (turn + 1)).toNat < (2000 - turn).toNat; omega)))
      · replace h : reach < 99 := h
        show stride * 2 ≤ 198
        omega
      · replace x2 : x ≤ reach := x2
        by_cases e : x ≤ kept
        · exact hall x x1 e
        · exact hx x (by omega) x2
      · show turn + 1 + 8 * (99 - reach) + lgI (min (stride * 2) (99 - reach)) ≤ 798
        omega
    have h169 : (reach = kept + 1 → σ 45 reach ≠ -2) → gv (g_X0_edgeOf_169 rec k code kept stride edge turn reach mid) T σ (fun r ν' => edR p k (bTop p) code r ∧ (100 < r → False) ∧ ∃ ν1, eI T ν0 ν1 p k code ∧ ν' = gup ν1 (-3903) 0 (-1)) := fun hne => by
      unfold g_X0_edgeOf_169
      refine gv_cb ⟨⟨by omega, by omega⟩, ⟨by omega, by omega⟩⟩ (fun c4 => h189 (fun x x1 x2 => ?_)) (fun c4 => ?_)
      · by_cases e : x = kept
        · rw [e]; exact hKF
        · have ex : x = reach := by omega
          have : ¬ ¬ (bf (pw p k reach) 0 (bTop p) code).2 = (bf p 0 (bTop p) code).2 := fun h => hne c4 (kr.1.mpr h)
          rw [ex]; exact Classical.byContradiction this
      · have hmm := hmi.2.2 c4
        refine gv_rd (d_X0_staysBetween (a := kept) (m := mid) (b := reach) (by omega) (by omega) (by omega) (by rw [eM]; exact h06) (hdv σ hσ)) ?_
        have hsb : sbV (σ 45) (σ (-3906) 0) kept mid reach = 0 ∨ sbV (σ 45) (σ (-3906) 0) kept mid reach = 1 := by
          unfold sbV
          repeat' split
          all_goals omega
        refine gv_cz (by omega) (fun c5 => gv_dv ⟨⟨by omega, by omega⟩, ⟨by omega, by omega⟩, by omega⟩ ?_) (fun c5 => h189 (fun x x1 x2 => ?_))
        · rw [Int.tdiv_eq_ediv_of_nonneg (by omega)]
          have hh := lgI_half (x := reach - kept) (by omega) (by omega)
          unfold g_X0_edgeOf_209
          refine gv_let (hrec _ _ ⟨hσ, hkp, ⟨by show 1 ≤ (reach - kept) / 2; omega, by show (reach - kept) / 2 ≤ 396; omega⟩, fun _ => by show (reach - kept) / 2 ≤ 198; omega, hnk, hall, by show 0 ≤ turn + 1; omega, Or.inl ⟨he100.1, ?_⟩⟩ (by show (2000 - (turn + 1)).toNat < (2000 - turn).toNat; omega))
          show turn + 1 + 8 * (99 - kept) + lgI (min ((reach - kept) / 2) (99 - kept)) ≤ 798
          rw [show min ((reach - kept) / 2) (99 - kept) = (reach - kept) / 2 by omega]
          rw [← hre.2.2] at he100
          omega
        · have c6 : sbV (σ 45) (σ (-3906) 0) kept mid reach = 1 := by omega
          unfold sbV at c6
          by_cases d1 : σ 45 reach = -2
          · rw [if_pos d1] at c6; omega
          · rw [if_neg d1] at c6
            have hRF : (bf (pw p k reach) 0 (bTop p) code).2 = (bf p 0 (bTop p) code).2 := Classical.byContradiction (fun h => d1 (kr.1.mpr h))
            have vr := kr.2 hRF
            have vk := kk.2 hKF
            have fk := (hFx kept (by omega) (by omega)).mp hKF
            have fr := (hFx reach (by omega) (by omega)).mp hRF
            rw [hFx x (by omega) (by omega)]
            by_cases d2 : σ 45 reach = σ 45 kept
            · exact stay_same hok (by omega) (by omega) (by omega) (by omega) x1 x2 fk fr (by omega)
            · rw [if_neg d2] at c6
              by_cases d3 : σ (-3906) 0 = 0
              · rw [if_pos d3] at c6; omega
              · rw [if_neg d3] at c6
                rw [eM] at d3
                have hnm' := hnm d3 d1 d2
                have km := hknow σ hσ mid (by omega) (by omega) hnm'
                by_cases d4 : σ 45 mid = -2
                · rw [if_pos d4] at c6; omega
                · rw [if_neg d4] at c6
                  have hMF : (bf (pw p k mid) 0 (bTop p) code).2 = (bf p 0 (bTop p) code).2 := Classical.byContradiction (fun h => d4 (km.1.mpr h))
                  have vm := km.2 hMF
                  have fm := (hFx mid (by omega) (by omega)).mp hMF
                  have d5 : (σ 45 mid - σ 45 kept) * (reach - mid) = (σ 45 reach - σ 45 mid) * (mid - kept) := Classical.byContradiction (fun h => by rw [if_neg h] at c6; omega)
                  rw [vm, vk, vr] at d5
                  exact stay_line hok (hmn.mpr d3) (by omega) (by omega) (by omega) (by omega) hmm.1 hmm.2 x1 x2 fk fm fr d5
    unfold g_X0_edgeOf_142
    refine gv_cb ⟨⟨by omega, by omega⟩, ⟨by omega, by omega⟩⟩ (fun c4 => h169 (fun e => absurd e c4)) (fun c4 => gv_al ⟨by omega, by omega⟩ (gv_cb ⟨⟨by omega, by omega⟩, ⟨by omega, by omega⟩⟩ (fun c5 => h169 (fun _ => c5)) (fun c5 => ?_)))
    have c5' : σ 45 reach = -2 := Classical.byContradiction c5
    unfold g_X0_edgeOf_209
    refine gv_let (hrec _ _ ⟨hσ, hkp, hst, hst2, hnk, hall, by show 0 ≤ turn + 1; omega, Or.inr ⟨by show reach = kept + 1; omega, by show reach ≤ 99; omega, kr.1.mp c5', by show turn + 1 ≤ 900; omega⟩⟩ (by show (2000 - (turn + 1)).toNat < (2000 - turn).toNat; omega))
  refine gv_call (s_X0_seek hH hE (q := reach) (by omega)) (fun _ τ1 h1 => gv_get ?_)
  obtain ⟨hE1, hn1, hk1⟩ := h1
  have hkk1 : τ1 45 kept ≠ -1 := by rw [hk1 kept hkn]; exact hkn
  rw [hE1.n hH (b := -3906) (by decide) (by decide)]
  have d1r := hdv τ1 hE1 reach (by omega) (by omega)
  have d1k := hdv τ1 hE1 kept (by omega) (by omega)
  refine gv_cz ⟨by omega, by omega⟩ (fun c4 => h142 τ1 hE1 hkk1 hn1 (fun h => absurd c4 h)) (fun c4 => gv_al ⟨by omega, by omega⟩ (gv_cb ⟨⟨by omega, by omega⟩, ⟨by omega, by omega⟩⟩ (fun c5 => h142 τ1 hE1 hkk1 hn1 (fun _ h => absurd c5 h)) (fun c5 => gv_al ⟨by omega, by omega⟩ (gv_al ⟨by omega, by omega⟩ (gv_cb ⟨⟨by omega, by omega⟩, ⟨by omega, by omega⟩⟩ (fun c6 => h142 τ1 hE1 hkk1 hn1 (fun _ _ h => absurd c6 h)) (fun c6 => ?_))))))
  refine gv_call (s_X0_seek hH hE1 (q := mid) (by omega)) (fun _ τ2 h2 => ?_)
  obtain ⟨hE2, hn2, hk2⟩ := h2
  exact h142 τ2 hE2 (by rw [hk2 kept hkk1]; exact hkk1) (by rw [hk2 reach hn1]; exact hn1) (fun _ _ _ => hn2)
theorem s_J7_fill_o45 (v : Int) : gv (g_J7_fill_o45 v) T ν (fun _ ν' => gfr [45] ν ν' ∧ ∀ k : Int, 0 ≤ k → k < 100 → ν' 45 k = v) := by
  unfold g_J7_fill_o45 g_J7_fill_5_o45
  refine gv_fx (fun (x : Int) τ => ∃ j : Nat, x = j ∧ j ≤ 100 ∧ gfr [45] ν τ ∧ ∀ k : Int, 0 ≤ k → k < j → τ 45 k = v) (fun x _ => 100 - x.toNat) ⟨0, rfl, by omega, gfr.refl _ _, fun k h1 h2 => by omega⟩ (by omega) ?_
  intro rec x τ hI hrec
  obtain ⟨j, rfl, hj, hf, hz⟩ := hI
  unfold gB_J7_fill_5_o45
  refine gv_cb ⟨⟨by omega, by omega⟩, ⟨by omega, by omega⟩⟩ (fun hc => gv_ret ⟨hf, fun k h1 h2 => hz k h1 (by omega)⟩) (fun hc => ?_)
  refine gv_as ⟨by omega, by omega⟩ (gv_let ?_)
  refine hrec _ _ ⟨j + 1, by omega, by omega, hf.up (by decide), fun k h1 h2 => ?_⟩ (by omega)
  rw [gup_same]
  by_cases e : k = j
  · rw [if_pos e]
  · rw [if_neg e]; exact hz k h1 (by omega)
end
