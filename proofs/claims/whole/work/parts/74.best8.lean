/-! BEST: best and next -/
def wBs : List Int := [-3902, -3903, -3904, -3905, -3906, -3907, -3908, 42, 43, 44, 45, -3913, -3914, -3915, -3916, -3917, 40, 41]
/-- what a call of the table leaves -/
def bsQ (T : gT) (ν : gN) (T' : gT) (ν' : gN) : Prop := gext T T' ∧ T'.1 ≤ T.1 + 125 ∧ iBs T' ν' ∧ gsl T' + bsP ν' ≤ gsl T + bsP ν ∧ (∀ b : Int, b ≤ T.1 → b ∉ wBs → ¬ rO ν b → ν' b = ν b) ∧ (∀ b : Int, rO ν' b → rO ν b ∨ (T.1 : Int) < b) ∧ ν' (-3902) 0 ≤ ν (-3902) 0 + 1
/-- what is asked before -/
def bsH (T : gT) (ν : gN) : Prop := iSt ν ∧ iBs T ν ∧ 104 ≤ T.1 ∧ T.1 + 125 ≤ hf_cc ∧ gsl T + bsP ν ≤ hf_cs ∧ (0 ≤ ν (-207) 0 ∧ ν (-207) 0 ≤ 100000) ∧ ν (-3902) 0 ≤ 100000
section
variable {T : gT} {ν : gN}
theorem gbd_assoc {α β γ : Type} (m : gM α) (f : α → gM β) (g : β → gM γ) : gbd (gbd m f) g = gbd m (fun x => gbd (f x) g) := by
  funext s
  unfold gbd
  cases m s with
  | none => rfl
  | some x => rfl
theorem gbd_get {α β : Type} (x : Int) (f : Int → gM α) (g : α → gM β) : gbd (gget x f) g = gget x (fun v => gbd (f v) g) := rfl
theorem rO_far (hi : iBr T ν) {b : Int} (hb : b ≤ 104) : ¬ rO ν b := fun ⟨c, c1, c2, c3, c4⟩ => by
  have := (hi.row ⟨c1, c2⟩ (by omega)).2.1
  omega
theorem bs_after {law code : Int} {ν1 ν2 : gN} {T2 : gT} (hlaw : 0 ≤ law ∧ law ≤ 3) (hs : iSt ν) (h : iBs T ν) (h104 : 104 ≤ T.1) (p1 : gfr wPr ν ν1) (p2 : eqC ν1 (pR ν law)) (p4 : iBr T ν1) (p5 : ν1 (-3903) 0 = law) (p6 : ν1 (-3904) 0 = ν (-207) 0) (p7 : 0 ≤ ν1 (-3906) 0 ∧ ν1 (-3906) 0 ≤ 1) (p8 : ν1 44 0 = 0) (p9 : 0 ≤ ν1 (-3902) 0 ∧ ν1 (-3902) 0 ≤ ν (-3902) 0 + 1) (hq : fuQ T ν1 (pR ν law) code T2 ν2) (hT2 : T2.1 ≤ T.1 + 125) : bsQ T ν T2 ν2 ∧ pR ν2 law = pR ν law := by
  obtain ⟨f1, f2, f3, f4, f5, f6⟩ := hq
  have n : ∀ b : Int, b ≤ 104 → b ∉ ([-3915, -3916, -3917, 40, 41] : List Int) → ν2 b = ν1 b := fun b hb hn => f5 b (by omega) hn (rO_far p4 hb)
  have e40 : ν1 40 = ν 40 := p1 40 (by decide)
  have eO : ∀ b : Int, rO ν1 b ↔ rO ν b := fun b => by unfold rO; rw [e40]
  have eref : ∀ b ∈ ([-6903, -6908, -6909, 71, 73, 74] : List Int), ν2 b = ν b := fun b hb => by
    rw [n b (by revert b; decide) (by revert b; decide)]
    exact p1 b (by revert b; decide)
  have epR : ∀ l, pR ν2 l = pR ν l := fun l => pR_fr eref l
  have n207 : ν2 (-207) = ν (-207) := by rw [n _ (by decide) (by decide)]; exact p1 _ (by decide)
  refine ⟨⟨f1, hT2, ⟨f2, ?_, ?_, ?_, ?_, ?_, ?_, fun _ _ => ?_⟩, ?_, fun b b1 b2 b3 => ?_, fun b hb => ?_, ?_⟩, epR law⟩
  · rw [n (-3903) (by decide) (by decide), p5]; omega
  · rw [n (-3904) (by decide) (by decide), p6, n207]; have := h.2.2.1; omega
  · rw [n (-3902) (by decide) (by decide)]; exact p9.1
  · rw [n (-3906) (by decide) (by decide)]; exact p7
  · rw [n 44 (by decide) (by decide)]; exact p8
  · rw [n 92 (by decide) (by decide), p1 92 (by decide)]; exact h.2.2.2.2.2.2.1
  · rw [n (-3903) (by decide) (by decide), p5, epR]
    refine ⟨eqC_fr (fun b hb => n b (aBp_le b hb) (aBp_no b hb)) p2, f3⟩
  · unfold bsP at f4 ⊢
    rw [e40] at f4
    exact f4
  · have hb2 : b ∉ wPr := fun hh => b2 (by revert hh; unfold wPr wBs; simp only [List.mem_cons, List.not_mem_nil, or_false]; omega)
    rw [f5 b b1 (fun hh => b2 (by revert hh; unfold wBs; simp only [List.mem_cons, List.not_mem_nil, or_false]; omega)) (fun hh => b3 ((eO b).mp hh))]
    exact p1 b hb2
  · rcases f6 b hb with g | g
    · exact Or.inl ((eO b).mp g)
    · exact Or.inr g
  · rw [n (-3902) (by decide) (by decide)]; exact p9.2
theorem d_X8_allPieces : gd g_X8_allPieces T ν (ν 4 0 + 5 * ν 4 1 + 25 * ν 4 2) := by
  unfold g_X8_allPieces
  exact gd_al (by decide) (gd_al (by decide) (gd_al (by decide) gd_ret))
theorem d_X12_allPieces : gd g_X12_allPieces T ν (ν 72 0 + 5 * ν 72 1 + 25 * ν 72 2) := by
  unfold g_X12_allPieces
  exact gd_al (by decide) (gd_al (by decide) (gd_al (by decide) gd_ret))
def allP (ν : gN) : Int := ν 4 0 + 5 * ν 4 1 + 25 * ν 4 2
theorem allP_in (hs : iSt ν) : 0 ≤ allP ν ∧ allP ν < 125 := by
  have p0 := (hs.2.1 0 (by decide) (by decide)).2.1
  have p1 := (hs.2.1 1 (by decide) (by decide)).2.1
  have p2 := (hs.2.1 2 (by decide) (by decide)).2.1
  unfold allP
  omega
theorem allP_ref (hs : iSt ν) : ν 72 0 + 5 * ν 72 1 + 25 * ν 72 2 = allP ν := by
  unfold allP
  rw [(hs.2.2.2.2.2.2.1 0 (by decide) (by decide)).2.1, (hs.2.2.2.2.2.2.1 1 (by decide) (by decide)).2.1, (hs.2.2.2.2.2.2.1 2 (by decide) (by decide)).2.1]
theorem iBs.fu {law : Int} (hH : bsH T ν) (hlaw : 0 ≤ law ∧ law ≤ 3) {α : Type} {f : Int → gM α} {Q : α → gT → gN → Prop} {low high code : Int} (hcode : 0 ≤ code ∧ code < 125) (hl : 0 ≤ low ∧ low ≤ high ∧ high ≤ ν (-200) 0)
    {K : Int → gM Int} (hK : ∀ ν1 : gN, gfr wPr ν ν1 → ∀ Q', gw (g_X0_valueOf low high code) T ν1 Q' → gw (K 0) T ν1 Q')
    (hrest : ∀ r T' ν', r = vA (bv (pR ν law) low high code) → ν' (-3916) 0 = (bf (pR ν law) low high code).2.1 → ν' (-3917) 0 = (bf (pR ν law) low high code).2.2 → bsQ T ν T' ν' → gw (f r) T' ν' Q) (h0 : ∀ r, K r = K 0) : gw (gbd (gbd (g_X0_prepare law) K) f) T ν Q := by
  obtain ⟨hs, hb, h104, hcc, hcs, hch, hag⟩ := hH
  have hok := pR_ok hs.rOK law
  refine gw_call (Q' := fun r T' ν' => r = vA (bv (pR ν law) low high code) ∧ ν' (-3916) 0 = (bf (pR ν law) low high code).2.1 ∧ ν' (-3917) 0 = (bf (pR ν law) low high code).2.2 ∧ bsQ T ν T' ν') ?_ (fun r T' ν' hq => hrest r T' ν' hq.1 hq.2.1 hq.2.2.1 hq.2.2.2)
  refine gw_callv (s_X0_prepare hs hb hlaw hch hag) (fun r ν1 h1 => ?_)
  obtain ⟨p1, p2, p3, p4, p5, p6, p7, p8, p9⟩ := h1
  rw [h0 r]
  have e40 : ν1 40 = ν 40 := p1 40 (by decide)
  refine hK ν1 p1 _ ((s_X0_valueOf p2 hok p7 h104 p4 p3 hcode hcc (by unfold bsP at hcs ⊢; rw [e40]; exact hcs) (by show 0 ≤ low ∧ low ≤ high ∧ high ≤ ν (-6903) 0; rw [hs.2.2.2.2.2.1]; exact hl)).mono (fun r2 T2 ν2 h2 => ?_))
  exact ⟨h2.1, h2.2.1, h2.2.2.1, (bs_after hlaw hs hb h104 p1 p2 p4 p5 p6 p7 p8 p9 h2.2.2.2.2.1 h2.2.2.2.2.2).1⟩
theorem bsQ_refl (h : bsH T ν) : bsQ T ν T ν := ⟨gext.refl _, by omega, h.2.1, Nat.le_refl _, fun b _ _ _ => rfl, fun b hb => Or.inl hb, by omega⟩
theorem s_X11_best {law : Int} (hl : -2147483648 ≤ law ∧ law ≤ 2147483647) (hH : bsH T ν) : gw (g_X11_best law) T ν (fun r T' ν' => r = (if 0 ≤ law ∧ law ≤ 3 then vA (bv (pR ν law) 0 (ν (-200) 0) (allP ν)) else -1) ∧ bsQ T ν T' ν') := by
  have hs := hH.1
  have htop := hs.1
  unfold g_X11_best
  refine gw_rd (d_X11_isWithin hl (by decide)) ?_
  by_cases c : 0 ≤ law ∧ law ≤ 3
  · rw [show (if 0 ≤ law ∧ law ≤ 3 then (1 : Int) else 0) = 1 from if_pos c, show (if 0 ≤ law ∧ law ≤ 3 then vA (bv (pR ν law) 0 (ν (-200) 0) (allP ν)) else -1) = vA (bv (pR ν law) 0 (ν (-200) 0) (allP ν)) from if_pos c]
    refine gw_cz (by decide) (fun _ => ?_) (fun h => absurd (by decide) h)
    have hassoc : (gbd (g_X0_prepare law) (fun _ => gget (-200) (fun v33 => gbd g_X8_allPieces (fun v40 => gbd (g_X0_valueOf 0 v33 v40) (fun v43 => gret v43))))) = gbd (gbd (g_X0_prepare law) (fun _ => gget (-200) (fun v33 => gbd g_X8_allPieces (fun v40 => g_X0_valueOf 0 v33 v40)))) (fun v43 => gret v43) := by
      simp only [gbd_assoc, gbd_get]
    rw [hassoc]
    refine iBs.fu hH c (low := 0) (high := ν (-200) 0) (code := allP ν) (allP_in hs) (by omega) (fun ν1 p1 Q' h => gw_get ?_) (fun r T' ν' h1 h2 h3 h4 => gw_ret ⟨h1, h4⟩) (fun _ => rfl)
    rw [p1 (-200) (by decide)]
    have hd := d_X8_allPieces (T := T) (ν := ν1)
    rw [p1 4 (by decide)] at hd
    exact gw_rd hd h
  · rw [show (if 0 ≤ law ∧ law ≤ 3 then (1 : Int) else 0) = 0 from if_neg c, show (if 0 ≤ law ∧ law ≤ 3 then vA (bv (pR ν law) 0 (ν (-200) 0) (allP ν)) else -1) = -1 from if_neg c]
    exact gw_cz (by decide) (fun h => absurd rfl h) (fun _ => gw_ret ⟨rfl, bsQ_refl hH⟩)
def okN (ν : gN) (law low high left what : Int) : Prop := (0 ≤ law ∧ law ≤ 3) ∧ 0 ≤ low ∧ low ≤ high ∧ high ≤ ν (-200) 0 ∧ (0 ≤ left ∧ left ≤ 124) ∧ (0 ≤ what ∧ what ≤ 2)
def nxA (p : bP) (low high left what : Int) : Int := if what = 0 then vA (bv p low high left) else if what = 1 then (bf p low high left).2.1 else (bf p low high left).2.2
theorem af_kind (c : Int → Int) (k dk lo : Int) (st : Int × Int × Int) {B : Int} (hst : -1 ≤ st.2.1 ∧ st.2.1 ≤ 2 ∧ -1000 ≤ st.2.2 ∧ st.2.2 ≤ 1000) (hk : 0 ≤ k ∧ k ≤ 2) (hd : -9 ≤ dk ∧ dk ≤ 9) (hlo : 0 ≤ lo ∧ lo ≤ 50) : ∀ n : Nat, n ≤ 50 → -1 ≤ (af c k dk lo st n).2.1 ∧ (af c k dk lo st n).2.1 ≤ 2 ∧ -1000 ≤ (af c k dk lo st n).2.2 ∧ (af c k dk lo st n).2.2 ≤ 1000 := by
  intro n
  induction n with
  | zero => intro _; exact hst
  | succ n ih =>
    intro hn
    have h1 := ih (by omega)
    have e : af c k dk lo st (n + 1) = if c (lo + n) < (af c k dk lo st n).1 then (c (lo + n), k, lo + n + dk) else af c k dk lo st n := rfl
    rw [e]
    by_cases h : c (lo + n) < (af c k dk lo st n).1
    · rw [if_pos h]; exact ⟨by show -1 ≤ k; omega, by show k ≤ 2; omega, by show -1000 ≤ lo + n + dk; omega, by show lo + n + dk ≤ 1000; omega⟩
    · rw [if_neg h]; exact h1
theorem bf_kind {p : bP} (hok : okP p) {low high c : Int} (h0 : 0 ≤ low) (h40 : high ≤ 40) (hlh : low ≤ high) : -1 ≤ (bf p low high c).2.1 ∧ (bf p low high c).2.1 ≤ 2 ∧ -1000 ≤ (bf p low high c).2.2 ∧ (bf p low high c).2.2 ≤ 1000 := by
  have hk : ∀ j : Nat, j ≤ 3 → -1 ≤ (bfk p low high c j).2.1 ∧ (bfk p low high c j).2.1 ≤ 2 ∧ -1000 ≤ (bfk p low high c j).2.2 ∧ (bfk p low high c j).2.2 ≤ 1000 := by
    intro j
    induction j with
    | zero => intro _; exact ⟨by show (-1 : Int) ≤ -1; omega, by show (-1 : Int) ≤ 2; omega, by show (-1000 : Int) ≤ -1; omega, by show (-1 : Int) ≤ 1000; omega⟩
    | succ j ih =>
      intro hj
      exact af_kind (B := 0) _ _ _ _ _ (ih (by omega)) (by omega) (hok.2.2.2.1 j (isK_of (by omega))).1 (by omega) _ (by omega)
  exact hk 3 (Nat.le_refl _)
theorem s_X11_next {law low high left what : Int} (a1 : -2147483648 ≤ law ∧ law ≤ 2147483647) (a2 : -2147483648 ≤ low ∧ low ≤ 2147483647) (a3 : -2147483648 ≤ high ∧ high ≤ 2147483647) (a4 : -2147483648 ≤ left ∧ left ≤ 2147483647) (a5 : -2147483648 ≤ what ∧ what ≤ 2147483647) (hH : bsH T ν) : gw (g_X11_next law low high left what) T ν (fun r T' ν' => ((okN ν law low high left what ∧ r = nxA (pR ν law) low high left what) ∨ (¬ okN ν law low high left what ∧ r = -1)) ∧ bsQ T ν T' ν') := by
  have hs := hH.1
  have htop := hs.1
  have hno : ¬ okN ν law low high left what → gw g_X11_next_47 T ν (fun r T' ν' => ((okN ν law low high left what ∧ r = nxA (pR ν law) low high left what) ∨ (¬ okN ν law low high left what ∧ r = -1)) ∧ bsQ T ν T' ν') := fun h => gw_ret ⟨Or.inr ⟨h, rfl⟩, bsQ_refl hH⟩
  unfold g_X11_next
  refine gw_rd (d_X11_isWithin a1 (by decide)) ?_
  by_cases c1 : 0 ≤ law ∧ law ≤ 3
  · rw [if_pos c1]
    refine gw_cz (by decide) (fun h => absurd h (by decide)) (fun _ => gw_cz a2 (fun c => hno (fun h => by have := h.2.1; omega)) (fun c2 => gw_cb ⟨a2, a3⟩ (fun c => hno (fun h => by have := h.2.2.1; omega)) (fun c3 => gw_get (gw_cb ⟨⟨by omega, by omega⟩, ⟨by omega, by omega⟩⟩ (fun c => hno (fun h => by have := h.2.2.2.1; omega)) (fun c4 => gw_rd (d_X11_isWithin a4 (by decide)) ?_)))))
    by_cases c5 : 0 ≤ left ∧ left ≤ 124
    · rw [if_pos c5]
      refine gw_cz (by decide) (fun h => absurd h (by decide)) (fun _ => gw_rd (d_X11_isWithin a5 (by decide)) ?_)
      by_cases c6 : 0 ≤ what ∧ what ≤ 2
      · rw [if_pos c6]
        refine gw_cz (by decide) (fun _ => ?_) (fun h => absurd (by decide) h)
        have hokn : okN ν law low high left what := ⟨c1, by omega, by omega, by omega, c5, c6⟩
        have hassoc : ∀ f : Int → gM Int, (gbd (g_X0_prepare law) (fun _ => gbd (g_X0_valueOf low high left) f)) = gbd (gbd (g_X0_prepare law) (fun _ => g_X0_valueOf low high left)) f := fun f => by
          funext s
          unfold gbd
          cases g_X0_prepare law s with
          | none => rfl
          | some x => rfl
        rw [hassoc]
        have hok := pR_ok hs.rOK law
        have hbk := bf_kind hok (c := left) (show 0 ≤ low by omega) (show high ≤ 40 by omega) (by omega)
        refine iBs.fu hH c1 (low := low) (high := high) (code := left) (by omega) (by omega) (fun ν1 p1 Q' h => h) (fun r T' ν' h1 h2 h3 h4 => gv.w (gv_ck a5 (gv_it (fun w0 => gv_ret ⟨Or.inl ⟨hokn, ?_⟩, h4⟩) (fun w0 => gv_it (fun w1 => gv_get ?_) (fun w1 => gv_get ?_))))) (fun _ => rfl)
        · unfold nxA; rw [if_pos w0]; exact h1
        · rw [h2]
          refine gv_ck ⟨by omega, by omega⟩ (gv_ret ⟨Or.inl ⟨hokn, ?_⟩, h4⟩)
          unfold nxA; rw [if_neg w0, if_pos w1]
        · rw [h3]
          refine gv_ck ⟨by omega, by omega⟩ (gv_ret ⟨Or.inl ⟨hokn, ?_⟩, h4⟩)
          unfold nxA; rw [if_neg w0, if_neg w1]
      · rw [if_neg c6]
        exact gw_cz (by decide) (fun h => absurd rfl h) (fun _ => hno (fun h => c6 h.2.2.2.2.2))
    · rw [if_neg c5]
      exact gw_cz (by decide) (fun _ => hno (fun h => c5 h.2.2.2.2.1)) (fun h => absurd rfl h)
  · rw [if_neg c1]
    exact gw_cz (by decide) (fun _ => hno (fun h => c1 h.1)) (fun h => absurd rfl h)
def wBr : List Int := [-6902, -6952, -6953, 91, 92]
theorem s_X12_best {law : Int} (hl : -2147483648 ≤ law ∧ law ≤ 2147483647) (hs : iSt ν) (h92 : ν 92 0 = 0) : gv (g_X12_best law) T ν (fun r ν' => r = (if 0 ≤ law ∧ law ≤ 3 then vA (bv (pR ν law) 0 (ν (-200) 0) (allP ν)) else -1) ∧ gfr wBr ν ν' ∧ ν' 92 0 = 0) := by
  have htop := hs.1
  have hf0 : gfr [-6902] ν (gup ν (-6902) 0 0) := (gfr.refl _ _).up (by decide)
  unfold g_X12_best
  refine gv_put (gv_tz (k1 := gret 0) (k2 := gret 0) (d_X12_isIn hl (by decide) (by decide)) (fun c => gv_c1 (gv_get ?_)) (fun c => gv_c0 (gv_ret ⟨by rw [if_neg c], hf0.mono (by decide), by rw [gup_ne (by decide)]; exact h92⟩)))
  simp only [if_pos c]
  rw [hf0 (-6903) (by decide), hs.2.2.2.2.2.1]
  have hd := d_X12_allPieces (T := T) (ν := gup ν (-6902) 0 0)
  rw [hf0 72 (by decide), allP_ref hs] at hd
  refine gv_rd hd ?_
  have eref : ∀ b ∈ ([-6903, -6908, -6909, 71, 73, 74] : List Int), gup ν (-6902) 0 0 b = ν b := hf0.eq (by decide)
  have hlay := s_X12_layBest (T := T) (ν := gup ν (-6902) 0 0) (law := law) (low := 0) (high := ν (-200) 0) (left := allP ν) (rOK_fr eref hs.rOK) c (by omega) (by rw [hf0 (-6903) (by decide), hs.2.2.2.2.2.1]; omega) (allP_in hs) (by rw [hf0 92 (by decide)]; exact h92)
  rw [pR_fr eref] at hlay
  have hb := bv_90 (pR_ok hs.rOK law) (low := 0) (high := ν (-200) 0) (c := allP ν) (by omega) (by omega) (by omega)
  refine gv_call hlay (fun r ν2 h2 => ?_)
  obtain ⟨q1, q2, q3, q4, q5⟩ := h2
  have hfr : gfr wBr ν ν2 := (hf0.mono (W' := wBr) (by decide)).trans (q4.mono (by decide))
  rw [q1]
  refine gv_cl ⟨⟨by omega, by omega⟩, ⟨by omega, by omega⟩⟩ (fun c2 => gv_ret ⟨by unfold vA; rw [if_pos c2], hfr, q5⟩) (fun c2 => gv_ret ⟨by unfold vA; rw [if_neg c2], hfr, q5⟩)
theorem s_X12_next {law low high left what : Int} (a1 : -2147483648 ≤ law ∧ law ≤ 2147483647) (a2 : -2147483648 ≤ low ∧ low ≤ 2147483647) (a3 : -2147483648 ≤ high ∧ high ≤ 2147483647) (a4 : -2147483648 ≤ left ∧ left ≤ 2147483647) (a5 : -2147483648 ≤ what ∧ what ≤ 2147483647) (hs : iSt ν) (h92 : ν 92 0 = 0) : gv (g_X12_next law low high left what) T ν (fun r ν' => ((okN ν law low high left what ∧ r = nxA (pR ν law) low high left what) ∨ (¬ okN ν law low high left what ∧ r = -1)) ∧ gfr wBr ν ν' ∧ ν' 92 0 = 0) := by
  have htop := hs.1
  have hf0 : gfr [-6902] ν (gup ν (-6902) 0 0) := (gfr.refl _ _).up (by decide)
  have h920 : gup ν (-6902) 0 0 92 0 = 0 := by rw [gup_ne (by decide)]; exact h92
  have hno : ¬ okN ν law low high left what → gv g_X12_next_52 T (gup ν (-6902) 0 0) (fun r ν' => ((okN ν law low high left what ∧ r = nxA (pR ν law) low high left what) ∨ (¬ okN ν law low high left what ∧ r = -1)) ∧ gfr wBr ν ν' ∧ ν' 92 0 = 0) := fun h => gv_ret ⟨Or.inr ⟨h, rfl⟩, hf0.mono (by decide), h920⟩
  unfold g_X12_next
  refine gv_put (gv_tz (k1 := gret 0) (k2 := gret 0) (d_X12_isIn a1 (by decide) (by decide)) (fun c1 => gv_e1 ?_) (fun c => gv_e0 (hno (fun h => c h.1))))
  refine gv_cz a2 (fun c => hno (fun h => by have := h.2.1; omega)) (fun c2 => gv_cb ⟨a3, a2⟩ (fun c => hno (fun h => by have := h.2.2.1; omega)) (fun c3 => gv_get ?_))
  rw [hf0 (-6903) (by decide), hs.2.2.2.2.2.1]
  refine gv_cb ⟨⟨by omega, by omega⟩, ⟨by omega, by omega⟩⟩ (fun c => hno (fun h => by have := h.2.2.2.1; omega)) (fun c4 => ?_)
  refine gv_tz (k1 := gret 0) (k2 := gret 0) (d_X12_isIn a4 (by decide) (by decide)) (fun c5 => gv_e1 ?_) (fun c => gv_e0 (hno (fun h => c h.2.2.2.2.1)))
  refine gv_tz (k1 := gret 0) (k2 := gret 0) (d_X12_isIn a5 (by decide) (by decide)) (fun c6 => gv_c1 ?_) (fun c => gv_c0 (hno (fun h => c h.2.2.2.2.2)))
  have hokn : okN ν law low high left what := ⟨c1, by omega, by omega, by omega, c5, c6⟩
  have eref : ∀ b ∈ ([-6903, -6908, -6909, 71, 73, 74] : List Int), gup ν (-6902) 0 0 b = ν b := hf0.eq (by decide)
  have hlay := s_X12_layBest (T := T) (ν := gup ν (-6902) 0 0) (law := law) (low := low) (high := high) (left := left) (rOK_fr eref hs.rOK) c1 (by omega) (by rw [hf0 (-6903) (by decide), hs.2.2.2.2.2.1]; omega) (by omega) h920
  rw [pR_fr eref] at hlay
  have hok := pR_ok hs.rOK law
  have hb := bv_90 hok (low := low) (high := high) (c := left) (by omega) (by omega) (by omega)
  have hbk := bf_kind hok (c := left) (show 0 ≤ low by omega) (show high ≤ 40 by omega) (by omega)
  refine gv_call hlay (fun r ν2 h2 => ?_)
  obtain ⟨q1, q2, q3, q4, q5⟩ := h2
  have hfr : gfr wBr ν ν2 := (hf0.mono (W' := wBr) (by decide)).trans (q4.mono (by decide))
  rw [q1]
  refine gv_cb ⟨a5, by decide⟩ (fun w1 => gv_cb ⟨a5, by decide⟩ (fun w2 => gv_cl ⟨⟨by omega, by omega⟩, ⟨by omega, by omega⟩⟩ (fun c7 => gv_ret ⟨Or.inl ⟨hokn, ?_⟩, hfr, q5⟩) (fun c7 => gv_ret ⟨Or.inl ⟨hokn, ?_⟩, hfr, q5⟩)) (fun w2 => gv_get ?_)) (fun w1 => gv_get ?_)
  · unfold nxA vA; rw [if_pos (by omega), if_pos c7]
  · unfold nxA vA; rw [if_pos (by omega), if_neg c7]
  · rw [q3]
    refine gv_ck ⟨by omega, by omega⟩ (gv_ret ⟨Or.inl ⟨hokn, ?_⟩, hfr, q5⟩)
    unfold nxA; rw [if_neg (by omega), if_neg w1]
  · rw [q2]
    refine gv_ck ⟨by omega, by omega⟩ (gv_ret ⟨Or.inl ⟨hokn, ?_⟩, hfr, q5⟩)
    unfold nxA; rw [if_neg (by omega), if_pos (by omega)]
end
