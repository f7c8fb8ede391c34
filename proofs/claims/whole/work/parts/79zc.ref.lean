/-! PLAN: the reference beside the function -/
def dee (x : Int) : Int := if x = 3 then -1 else x
def lnR (τ S : gN) (i : Int) : Prop := τ 79 (12 + i) = cf (S 13) i ∧ τ 80 (12 + i) = S 12 i ∧ τ 81 (12 + i) = S 12 i ∧ τ 82 (12 + i) = S 13 i ∧ τ 83 (12 + i) = dee (S 11 i)
def rL (τ S : gN) : Prop := τ (-6936) 0 = S 1 0 ∧ τ (-6921) 0 = S 7 0 ∧ τ (-6922) 0 = S 2 0 ∧ (∀ i : Nat, (i : Int) < S 2 0 → nOK τ (S 8) i) ∧ (∀ i : Int, 0 ≤ i → i < S 7 0 → lnR τ S i)
def rE (τ S : gN) : Prop := τ (-6933) 0 = S 3 0 ∧ (∀ i : Nat, (i : Int) < S 3 0 → τ 84 i = sg (S 9 i)) ∧ τ (-6935) 0 = S 4 0 ∧ stR τ (sn (S 8) (S 14 0) (S 2 0 - S 14 0).toNat)
def wRL : List Int := [-6936, -6921, -6922, 76, 77, 78, 79, 80, 81, 82, 83]
def wRE : List Int := [-6933, 84, -6935, -6934, 85]
def wHT : List Int := [70, 75, -6911, -6912, -6913, -6914, -6915, -6916, -6917]
def wPl : List Int := [76, 77, 78, 79, 80, 81, 82, 83, 84, 85, -6911, -6912, -6914, -6915, -6916, -6917, -6921, -6922, -6933, -6934, -6935, -6936, -6937, -6938]
def wBd : List Int := [76, 77, 78, 85, -6934, -6922, -6933]
def hT (τ : gN) (b : Int → Int) (n p : Int) : Prop := (srI τ b n (sc b n p).2.2.2 ∧ τ (-6911) 0 = 0 ∧ τ (-6912) 0 = -1) ∧ tkR (sc b n p).1 (sc b n p).2.1 (τ (-6915) 0) (τ (-6916) 0) ∧ τ (-6917) 0 = (sc b n p).2.2.1 ∧ (0 ≤ p ∧ p ≤ n)
theorem nOK_fr {τ τ' : gN} {W : Int → Int} {i : Nat} (h : nOK τ W i) (h6 : τ' 76 = τ 76) (h7 : τ' 77 = τ 77) (h8 : τ' 78 = τ 78) : nOK τ' W i := nOK_congr h (fun _ _ => rfl) (by rw [h6]) (by rw [h7]) (by rw [h8])
section
variable {T : gT} {τ τ' S : gN} {W : List Int} {b : Int → Int} {n p m : Int}
theorem rL.fr (h : rL τ S) (hf : gfr W τ τ') (hd : ∀ x ∈ wRL, x ∉ W) : rL τ' S := by
  have e : ∀ x ∈ wRL, τ' x = τ x := fun x hx => hf x (hd x hx)
  obtain ⟨h1, h2, h3, h4, h5⟩ := h
  refine ⟨by rw [e _ (by decide)]; exact h1, by rw [e _ (by decide)]; exact h2, by rw [e _ (by decide)]; exact h3, fun i hi => nOK_fr (h4 i hi) (e _ (by decide)) (e _ (by decide)) (e _ (by decide)), fun i a1 a2 => ?_⟩
  have := h5 i a1 a2
  unfold lnR at this ⊢
  rw [e 79 (by decide), e 80 (by decide), e 81 (by decide), e 82 (by decide), e 83 (by decide)]
  exact this
theorem rE.fr (h : rE τ S) (hf : gfr W τ τ') (hd : ∀ x ∈ wRE, x ∉ W) : rE τ' S := by
  have e : ∀ x ∈ wRE, τ' x = τ x := fun x hx => hf x (hd x hx)
  obtain ⟨h1, h2, h3, h4, h5⟩ := h
  exact ⟨by rw [e _ (by decide)]; exact h1, fun i hi => by rw [e _ (by decide)]; exact h2 i hi, by rw [e _ (by decide)]; exact h3, by rw [e _ (by decide)]; exact h4, fun j hj => by rw [e _ (by decide)]; exact h5 j hj⟩
theorem srI.fr (h : srI τ b n p) (hf : gfr W τ τ') (hd : ∀ x ∈ wHT, x ∉ W) : srI τ' b n p := by
  have e : ∀ x ∈ wHT, τ' x = τ x := fun x hx => hf x (hd x hx)
  obtain ⟨h1, h2, h3, h4, h5⟩ := h
  refine ⟨fun i a1 a2 => by rw [e 70 (by decide)]; exact h1 i a1 a2, ?_, by rw [e _ (by decide)]; exact h3, by rw [e _ (by decide)]; exact h4, h5⟩
  unfold iWd at h2 ⊢
  rw [e 75 (by decide)]; exact h2
theorem hT.fr (h : hT τ b n p) (hf : gfr W τ τ') (hd : ∀ x ∈ wHT, x ∉ W) : hT τ' b n p := by
  have e : ∀ x ∈ wHT, τ' x = τ x := fun x hx => hf x (hd x hx)
  obtain ⟨h1, h2, h3, h4⟩ := h
  exact ⟨⟨h1.1.fr hf hd, by rw [e _ (by decide)]; exact h1.2.1, by rw [e _ (by decide)]; exact h1.2.2⟩, by rw [e _ (by decide), e _ (by decide)]; exact h2, by rw [e _ (by decide)]; exact h3, h4⟩
theorem s_tk (h : hT τ b n p) : gv g_X12_take T τ (fun _ τ' => gfr wSr τ τ' ∧ hT τ' b n (sc b n p).2.2.2) := by
  have hs := h.1.1
  refine (s_X12_take hs).mono (fun _ τ' hh => ?_)
  obtain ⟨f, q1, q2, q3⟩ := hh
  obtain ⟨a1, a2, a3, a4, a5, a6, a7⟩ := hs
  have hsc := sc_in (b := b) a5
  refine ⟨f, ⟨⟨?_, ?_, ?_, q3, by omega, a6, a7⟩, by rw [f _ (by decide)]; exact h.1.2.1, by rw [f _ (by decide)]; exact h.1.2.2⟩, q1, q2, a5⟩
  · intro i c1 c2; rw [f 70 (by decide)]; exact a1 i c1 c2
  · unfold iWd at a2 ⊢; rw [f 75 (by decide)]; exact a2
  · rw [f _ (by decide)]; exact a3
theorem s_wrong (c : Int) : gv (g_X12_wrong c) T τ (fun r τ' => r = 0 ∧ τ' (-6911) 0 = c ∧ τ' (-6912) 0 = τ (-6917) 0 ∧ gfr [-6911, -6912] τ τ') := by
  unfold g_X12_wrong
  refine gv_put (gv_get (gv_put (gv_ret ⟨rfl, ?_, ?_, ((gfr.refl _ _).up (by decide)).up (by decide)⟩)))
  · rw [gup_ne (by decide), gup_at]
  · rw [gup_at, gup_ne (by decide)]
theorem s_isCounted {m : Int} (h : τ (-6936) 0 = m) (hm : 0 ≤ m ∧ m ≤ 64) : gv g_X12_isCounted T τ (fun r τ' => (m < 64 ∧ r = 1 ∧ τ' = gup τ (-6936) 0 (m + 1)) ∨ (¬ m < 64 ∧ r = 0 ∧ τ' (-6911) 0 = 2 ∧ τ' (-6912) 0 = τ (-6917) 0 ∧ gfr [-6911, -6912] τ τ')) := by
  unfold g_X12_isCounted
  refine gv_get ?_
  rw [h]
  refine gv_cb ⟨⟨by omega, by omega⟩, ⟨by omega, by omega⟩⟩ (fun c => gv_get (gv_put (gv_ret (Or.inl ⟨by omega, rfl, by rw [h]⟩)))) (fun c => gv_call (s_wrong 2) (fun r τ' hh => gv_ck (Or.inl hh.1) (gv_ret (Or.inr ⟨by omega, hh⟩))))
theorem s_waitsFor {h k : Int} (hh : τ (-6933) 0 = h) (hr : 0 ≤ h ∧ h < 96) : gv (g_X12_waitsFor k) T τ (fun _ τ' => τ' = gup (gup τ 84 h k) (-6933) 0 (h + 1)) := by
  unfold g_X12_waitsFor
  refine gv_get (gv_as (by omega) (gv_get (gv_put (gv_ret ?_))))
  rw [hh, gup_ne (by decide), hh]
theorem RN_of {e : Nat} (hL : rL τ S) (hE : rE τ S) (hp : pE S m e) : RN τ (S 8) (S 2 0).toNat (sn (S 8) (S 14 0) (S 2 0 - S 14 0).toNat) := by
  obtain ⟨h', o, s, e1, e2, e3, hI⟩ := hp
  obtain ⟨l1, l2, l3, l4, l5⟩ := hL
  have hs := hI.2.2.2.1
  rw [show (S 2 0).toNat = o by omega, show (S 2 0 - S 14 0).toNat = o - s by omega, e3]
  refine ⟨by omega, ?_, ⟨sn (S 8) 0 s, ?_⟩, fun i hi => l4 i (by omega)⟩
  · have := hE.2.2.2
    rw [show (S 2 0 - S 14 0).toNat = o - s by omega, e3] at this
    exact this
  · have := sn_split (W := S 8) (s := s) (o - s) hs.2.1
    rw [show s + (o - s) = o by omega] at this
    exact this
theorem sg_2 {k : Int} (h : hk k) : sg k = 2 ↔ k = 9 := by
  unfold hk at h
  unfold sg
  constructor
  · intro g
    revert g
    repeat' split
    all_goals omega
  · intro g; subst g; decide
/-- one sign is bound -/
theorem s_bind1 {τ0 : gN} {x : Int} {rec : Unit → gM Int} {Q : Int → gN → Prop} (hL : rL τ S) (hE : rE τ S) (hp : pE S m 1) (h1 : 0 < S 3 0) (h2 : 1 ≤ bnd (S 9 (S 3 0 - 1))) (h3 : τ0 = gup τ (-6933) 0 (S 3 0 - 1)) (hQ : ∀ τ', gfr wBd τ τ' → lo3 τ τ' → rL τ' (pop1 S) → rE τ' (pop1 S) → gv (rec ()) T τ' Q) : gv (gcb (sg (S 9 (S 3 0 - 1))) 2 (¬ (sg (S 9 (S 3 0 - 1)) = 2)) (gbd (g_X12_dropHeld) (fun v55 => g_X12_bind_58 rec x (sg (S 9 (S 3 0 - 1))) v55)) (g_X12_bind_58 rec x (sg (S 9 (S 3 0 - 1))) (-1))) T τ0 Q := by
  have hRN := RN_of hL hE hp
  have hkk := pE_hk hp h1
  have hE' := pE_pop hp h1 h2
  have h64 := pE_64 hp
  have hne : S 9 (S 3 0 - 1) ≠ 3 := fun q => by have := (hk_bnd hkk).1 q; omega
  have h26 := h64.2.2.2.2.2.2.2.2 h1 hne
  have hf0 : gfr [-6933] τ τ0 := by rw [h3]; exact (gfr.refl _ _).up (by decide)
  have hRN0 : RN τ0 (S 8) (S 2 0).toNat (sn (S 8) (S 14 0) (S 2 0 - S 14 0).toNat) := by
    obtain ⟨r1, ⟨r2, r2'⟩, r3, r4⟩ := hRN
    exact ⟨by rw [hf0 _ (by decide)]; exact r1, ⟨by rw [hf0 _ (by decide)]; exact r2, fun j hj => by rw [hf0 _ (by decide)]; exact r2' j hj⟩, r3, fun i hi => nOK_fr (r4 i hi) (hf0 _ (by decide)) (hf0 _ (by decide)) (hf0 _ (by decide))⟩
  have hsgi : 0 ≤ sg (S 9 (S 3 0 - 1)) ∧ sg (S 9 (S 3 0 - 1)) ≤ 14 := by
    unfold hk at hkk
    unfold sg
    repeat' split
    all_goals omega
  obtain ⟨h', o, s, e1, e2, e3, hI⟩ := hp
  obtain ⟨g, rfl⟩ : ∃ g, h' = g + 1 := ⟨h' - 1, by omega⟩
  have hs := hI.2.2.2.1
  have eb : bn (S 9) (g + 1) = bn (S 9) g + (if S 9 g = 3 ∨ S 9 g = 9 then 0 else 1) := rfl
  have eg : S 3 0 - 1 = (g : Int) := by omega
  rw [eg] at hkk hne hsgi ⊢
  rw [show (S 2 0 - S 14 0).toNat = o - s by omega, e3, show (S 2 0).toNat = o by omega] at hRN0
  have hlen := hs.2.2
  rw [eb] at hlen
  have hW : ∀ j : Nat, j < o → pop1 S 8 j = S 8 j := fun j hj => by rw [pop1_8, if_neg (by omega)]
  have hw : pop1 S 8 o = 1000 + S 9 g := by rw [pop1_8, if_pos (by omega), eg]
  have hnd := need_hk hkk hne
  have hm := sn_more (W' := pop1 S 8) (w := 1000 + S 9 g) hs.1 hs.2.1 hW hw (by
    rw [hs.2.2, eb, hnd]
    by_cases c : S 9 g = 9
    · rw [if_pos c]; omega
    · rw [if_neg c, if_neg (by omega)]; omega)
  have fin : ∀ (L : List Int) (τ' : gN), (sn (S 8) s (o - s)).drop (need (1000 + S 9 g)) = L → gfr [76, 77, 78, 85, -6934, -6922] τ0 τ' → lo3 τ0 τ' → RN τ' (pop1 S 8) (o + 1) ((o : Int) :: L) → gv (rec ()) T τ' Q := fun L τ' hLd hf hlo hR => by
    have hf1 : gfr wBd τ τ' := (hf0.mono (by decide)).trans (hf.mono (by decide))
    obtain ⟨l1, l2, l3, l4, l5⟩ := hL
    obtain ⟨q1, q2, q3, q4⟩ := hE
    obtain ⟨r1, r2, r3, r4⟩ := hR
    refine hQ τ' hf1 ((hf0.lo3 (by decide)).trans hlo) ⟨?_, ?_, ?_, fun i hi => ?_, fun i a1 a2 => ?_⟩ ⟨?_, fun i hi => ?_, ?_, ?_⟩
    · rw [hf1 _ (by decide), pop1_r (by decide) (by decide) (by decide)]; exact l1
    · rw [hf1 _ (by decide), pop1_r (by decide) (by decide) (by decide)]; exact l2
    · rw [r1, pop1_2]; omega
    · rw [pop1_2] at hi; exact r4 i (by omega)
    · rw [pop1_r (by decide) (by decide) (by decide)] at a2
      have := l5 i a1 a2
      unfold lnR at this ⊢
      rw [hf1 79 (by decide), hf1 80 (by decide), hf1 81 (by decide), hf1 82 (by decide), hf1 83 (by decide), pop1_r (r := 13) (by decide) (by decide) (by decide), pop1_r (r := 12) (by decide) (by decide) (by decide), pop1_r (r := 11) (by decide) (by decide) (by decide)]
      exact this
    · rw [pop1_3, hf (-6933) (by decide), h3, gup_at]
    · rw [pop1_3] at hi
      rw [hf1 84 (by decide), pop1_r (by decide) (by decide) (by decide)]; exact q2 i (by omega)
    · rw [hf1 _ (by decide), pop1_r (by decide) (by decide) (by decide)]; exact q3
    · rw [pop1_2, pop1_r (r := 14) (by decide) (by decide) (by decide), e3, show (S 2 0 + 1 - (s : Int)).toNat = o + 1 - s by omega, hm.2, hLd]; exact r2
  have h9 := sg_2 hkk
  refine gv_cb (by omega) (fun c => ?_) (fun c => ?_)
  · have c9 : S 9 g ≠ 9 := fun q => c (h9.mpr q)
    rw [if_neg c9] at hnd
    rw [if_neg (by omega)] at hlen
    obtain ⟨r, l, L, hLL⟩ : ∃ r l L, sn (S 8) s (o - s) = r :: l :: L := by
      match hq : sn (S 8) s (o - s) with
      | [] => rw [hq] at hlen; simp at hlen
      | [_] => rw [hq] at hlen; simp at hlen
      | r :: l :: L => exact ⟨r, l, L, rfl⟩
    exact s_binary hRN0 (by omega) hW (by unfold hk at hkk; omega) hw hLL (fun τ' a1 a2 a3 => fin L τ' (by rw [hnd, hLL]; rfl) a1 a2 a3)
  · have c9 : S 9 g = 9 := h9.mp (by omega)
    rw [if_pos c9] at hnd
    obtain ⟨r, L, hLL⟩ : ∃ r L, sn (S 8) s (o - s) = r :: L := by
      match hq : sn (S 8) s (o - s) with
      | [] => rw [hq] at hlen; simp at hlen
      | r :: L => exact ⟨r, L, rfl⟩
    rw [show sg (S 9 g) = 2 by omega]
    exact s_notMore hRN0 (by omega) hW (by rw [hw, c9]; rfl) hLL (fun τ' a1 a2 a3 => fin L τ' (by rw [hnd, hLL]; rfl) a1 a2 a3)
theorem s_bind {x : Int} (hL : rL τ S) (hE : rE τ S) (hp : pE S m 1) (hx : 1 ≤ x ∧ x ≤ 6) : gv (g_X12_bind x) T τ (fun _ τ' => gfr wBd τ τ' ∧ lo3 τ τ' ∧ rL τ' (rel S x) ∧ rE τ' (rel S x)) := by
  unfold g_X12_bind g_X12_bind_0
  have h64 := pE_64 hp
  refine gv_fx (fun (_ : Unit) σ => ∃ S', gfr wBd τ σ ∧ lo3 τ σ ∧ rL σ S' ∧ rE σ S' ∧ pE S' m 1 ∧ rel S x = rel S' x) (fun _ σ => (σ (-6933) 0).toNat) ⟨S, gfr.refl _ _, lo3.refl _, hL, hE, hp, rfl⟩ (by rw [hE.1]; omega) ?_
  intro rec _ σ hI hrec
  obtain ⟨S', hf, hlo, hL', hE', hp', er⟩ := hI
  have g64 := pE_64 hp'
  unfold gB_X12_bind_0
  refine gv_get ?_
  rw [hE'.1]
  refine gv_cz ⟨by omega, by omega⟩ (fun c => gv_ret (by rw [er, rel_stop (by omega)]; exact ⟨hf, hlo, hL', hE'⟩)) (fun c => gv_get (gv_al ?_ ?_))
  · rw [hE'.1]; omega
  have hkk := pE_hk hp' (by omega)
  have hbi := bnd_in (k := S' 9 (S' 3 0 - 1))
  have e84 : σ 84 (S' 3 0 - 1) = sg (S' 9 (S' 3 0 - 1)) := by
    have := hE'.2.1 (S' 3 0 - 1).toNat (by omega)
    rw [show (((S' 3 0 - 1).toNat : Nat) : Int) = S' 3 0 - 1 by omega] at this
    exact this
  rw [hE'.1, e84]
  refine gv_rd (d_X12_rank hkk) (gv_cb ⟨⟨by omega, by omega⟩, ⟨by omega, by omega⟩⟩ (fun c2 => gv_ret (by rw [er, rel_stop (by omega)]; exact ⟨hf, hlo, hL', hE'⟩)) (fun c2 => gv_get (gv_put (gv_get ?_))))
  rw [hE'.1, gup_at]
  refine gv_al (by omega) ?_
  rw [gup_ne (by decide), e84]
  refine s_bind1 (T := T) hL' hE' hp' (by omega) (by omega) rfl (fun τ' f1 lo1 l1 e1 => hrec () τ' ⟨pop1 S', hf.trans f1, hlo.trans lo1, l1, e1, pE_pop hp' (by omega) (by omega), by rw [er]; exact rel_pop (by omega) (by omega)⟩ ?_)
  rw [e1.1, pop1_3, hE'.1]; omega
end
