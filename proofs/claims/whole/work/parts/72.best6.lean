/-! BEST: the table's life -/
section
variable {α : Type} {T : gT} {ν : gN} {Q : α → gT → gN → Prop}
theorem gw_fx {S : Type} {F : (S → gM α) → S → gM α} (I : S → gT → gN → Prop) (z : S → Nat) {s : S} (hI : I s T ν) (hz : z s < 100000)
    (hs : ∀ (rec : S → gM α) (s : S) (U : gT) (τ : gN), I s U τ → (∀ s' U' τ', I s' U' τ' → z s' < z s → gw (rec s') U' τ' Q) → gw (F rec s) U τ Q) :
    gw (gfx F hf_N s) T ν Q := by
  have h : ∀ (n : Nat) (s : S) (U : gT) (τ : gN), I s U τ → z s < n → gw (gfx F n s) U τ Q := by
    intro n
    induction n with
    | zero => intro s U τ _ h; exact absurd h (Nat.not_lt_zero _)
    | succ n ih =>
      intro s U τ hI hz
      exact hs _ s U τ hI (fun s' U' τ' h1 h2 => ih s' U' τ' h1 (by omega))
  exact h _ _ _ _ hI hz
theorem gw_as {x len i v : Int} {k : gM α} (hi : 0 ≤ i ∧ i < len) (h : gw k T (gup ν x i v) Q) : gw (gas x len i v k) T ν Q := by
  obtain ⟨r, T', ν', h1, h2⟩ := h
  exact ⟨r, T', ν', by unfold gas; rw [if_pos hi]; exact h1, h2⟩
theorem gw_ob {tg : Nat} {o : Int} {k : gM α} (ho : gis T tg o) (h : gw k T ν Q) : gw (gob tg o k) T ν Q := by
  obtain ⟨r, T', ν', g1, g2⟩ := h
  exact ⟨r, T', ν', by unfold gob; rw [if_pos ho]; exact g1, g2⟩
theorem gw_callv {β : Type} {m : gM β} {f : β → gM α} {Q' : β → gN → Prop} (h : gv m T ν Q') (k : ∀ r ν', Q' r ν' → gw (f r) T ν' Q) : gw (gbd m f) T ν Q := by
  obtain ⟨r, ν', h1, h2⟩ := h
  obtain ⟨r2, T2, ν2, k1, k2⟩ := k r ν' h2
  exact ⟨r2, T2, ν2, by unfold gbd; rw [h1]; exact k1, k2⟩
end
theorem aBp_le : ∀ b ∈ aBp, b ≤ 104 := by decide
theorem aBp_no : ∀ b ∈ aBp, b ∉ ([-3915, -3916, -3917, 40, 41] : List Int) := by decide
/-- so many rows are not made yet -/
def nlR (f : Int → Int) : Nat → Nat
  | 0 => 0
  | n + 1 => nlR f n + (if f n = 0 then 1 else 0)
theorem nlR_same {f g : Int → Int} : ∀ n : Nat, (∀ i : Int, 0 ≤ i → i < n → f i = g i) → nlR f n = nlR g n := by
  intro n
  induction n with
  | zero => intro _; rfl
  | succ n ih =>
    intro h
    show nlR f n + (if f n = 0 then 1 else 0) = nlR g n + (if g n = 0 then 1 else 0)
    rw [ih (fun i a b => h i a (by omega)), h n (by omega) (by omega)]
theorem nlR_set {f : Int → Int} {c v : Int} (h0 : f c = 0) (hv : v ≠ 0) : ∀ n : Nat, 0 ≤ c → c < n → nlR (fun i => if i = c then v else f i) n + 1 = nlR f n := by
  intro n
  induction n with
  | zero => intro h1 h2; omega
  | succ n ih =>
    intro h1 h2
    show nlR (fun i => if i = c then v else f i) n + (if (if (n : Int) = c then v else f n) = 0 then 1 else 0) + 1 = nlR f n + (if f n = 0 then 1 else 0)
    by_cases e : (n : Int) = c
    · rw [if_pos e, if_neg hv, e, if_pos h0, nlR_same (g := f) n (fun i a b => if_neg (by omega))]
    · have := ih h1 (by omega)
      rw [if_neg e]
      omega
def bsP (ν : gN) : Nat := 861 * nlR (ν 40) 125
/-- a row of the table -/
def rO (ν : gN) (b : Int) : Prop := ∃ c : Int, 0 ≤ c ∧ c < 125 ∧ ν 40 c = b ∧ b ≠ 0
/-- the rows: none yet, or each its own; their ages -/
def iBr (T : gT) (ν : gN) : Prop := (∀ c : Int, 0 ≤ c → c < 125 → ν 40 c = 0 ∨ arr T (ν 40 c) 861) ∧ (∀ c c' : Int, 0 ≤ c → c < 125 → 0 ≤ c' → c' < 125 → c ≠ c' → ν 40 c ≠ 0 → ν 40 c ≠ ν 40 c') ∧ (∀ c : Int, 0 ≤ c → c < 125 → 0 ≤ ν 41 c ∧ ν 41 c ≤ ν (-3902) 0) ∧ ν (-3902) 0 ≤ 1000000
/-- rows of the present age are as they must be -/
def bsV (T : gT) (ν : gN) (p : bP) : Prop := ∀ c : Int, 0 ≤ c → c < 125 → ν 41 c = ν (-3902) 0 → rowV T ν p c
theorem rowV_ext {T T' : gT} {ν : gN} {p : bP} {c : Int} (h : gext T T') (hr : rowV T ν p c) : rowV T' ν p c := ⟨h.arr hr.1, hr.2⟩
/-- what filling up comes to -/
def fuQ (T : gT) (ν : gN) (p : bP) (code : Int) (T' : gT) (ν' : gN) : Prop := gext T T' ∧ iBr T' ν' ∧ bsV T' ν' p ∧ gsl T' + bsP ν' ≤ gsl T + bsP ν ∧ (∀ b : Int, b ≤ T.1 → b ∉ [-3915, -3916, -3917, 40, 41] → ¬ rO ν b → ν' b = ν b) ∧ (∀ b : Int, rO ν' b → rO ν b ∨ (T.1 : Int) < b)
section
variable {T : gT} {ν : gN}
theorem iBr.row {c : Int} (h : iBr T ν) (hc : 0 ≤ c ∧ c < 125) (hn : ν 40 c ≠ 0) : arr T (ν 40 c) 861 := by
  rcases h.1 c hc.1 hc.2 with e | e
  · exact absurd e hn
  · exact e
theorem s_fill48 {p : bP} {x code : Int} (hp : eqC ν p) (hok : okP p) (h06 : 0 ≤ ν (-3906) 0 ∧ ν (-3906) 0 ≤ 1) (hi : iBr T ν) (hv : bsV T ν p) (hx : 0 ≤ x ∧ x < 125) (hcode : code < 125) (hR : ν 40 x ≠ 0) (hxw : wit x code) (hdone : ∀ c : Int, 0 ≤ c → c < x → wit c code → ν 41 c = ν (-3902) 0) : gv (g_X0_fillRow x 0) T ν (fun _ ν' => gfr [-3915, -3916, -3917, ν 40 x] ν ν' ∧ iBr T (gup ν' 41 x (ν (-3902) 0)) ∧ bsV T (gup ν' 41 x (ν (-3902) 0)) p) := by
  have aR := hi.row hx hR
  have hR4 := aR.2.1
  have htop := hok.1
  refine (s_X0_fillRow hp hok h06 hx (by omega) aR (fun k hk hpk => ?_)).mono (fun r ν' h => ?_)
  · have hu := pcs_un hk hk hx.1 hpk
    have huv := un_val hk
    have hd := hdone (x - un k) hu.2.2.2 (by omega) (wit_un hk hx.1 hpk hxw)
    refine ⟨hv _ hu.2.2.2 (by omega) hd, fun e => ?_⟩
    exact hi.2.1 x (x - un k) hx.1 hx.2 hu.2.2.2 (by omega) (by omega) hR e.symm
  · obtain ⟨hf, hV, -⟩ := h
    have nm : ∀ b : Int, b ≤ 104 → b ∉ ([-3915, -3916, -3917] : List Int) → ν' b = ν b := fun b hb hn => hf b (by simp only [List.mem_cons, List.not_mem_nil, or_false, not_or] at hn ⊢; omega)
    have e40 : ν' 40 = ν 40 := nm 40 (by omega) (by decide)
    have e41 : ν' 41 = ν 41 := nm 41 (by omega) (by decide)
    have e02 : ν' (-3902) = ν (-3902) := nm (-3902) (by omega) (by decide)
    have hag := hi.2.2.1 x hx.1 hx.2
    refine ⟨hf, ?_, ?_⟩
    · refine ⟨?_, ?_, fun c c1 c2 => ?_, ?_⟩
      · rw [gup_ne (by decide), e40]; exact hi.1
      · rw [gup_ne (by decide), e40]; exact hi.2.1
      · rw [gup_same, gup_ne (by decide), e02, e41]
        have := hi.2.2.1 c c1 c2
        split <;> omega
      · rw [gup_ne (by decide), e02]; exact hi.2.2.2
    · intro c c1 c2 hc
      rw [gup_same, gup_ne (show (-3902 : Int) ≠ 41 by decide), e02, e41] at hc
      unfold rowV
      rw [gup_ne (show (40 : Int) ≠ 41 by decide), e40]
      by_cases e : c = x
      · subst e
        refine ⟨aR, fun a b a1 a2 a3 => ?_⟩
        rw [gup_ne (by omega)]
        exact hV a b a1 a2 (by omega) a3
      · rw [if_neg e] at hc
        obtain ⟨r1, r2⟩ := hv c c1 c2 hc
        have r4 := r1.2.1
        refine ⟨r1, fun a b a1 a2 a3 => ?_⟩
        rw [gup_ne (by omega), hf _ (by
          have := hi.2.1 c x c1 c2 hx.1 hx.2 e (by omega)
          simp only [List.mem_cons, List.not_mem_nil, or_false]; omega)]
        exact r2 a b a1 a2 a3
theorem s_X0_fillUpTo {p : bP} {code : Int} (hp : eqC ν p) (hok : okP p) (h06 : 0 ≤ ν (-3906) 0 ∧ ν (-3906) 0 ≤ 1) (h104 : 104 ≤ T.1) (hi : iBr T ν) (hv : bsV T ν p) (hcode : 0 ≤ code ∧ code < 125) (hc : T.1 + 125 ≤ hf_cc) (hs : gsl T + bsP ν ≤ hf_cs) : gw (g_X0_fillUpTo code) T ν (fun _ T' ν' => fuQ T ν p code T' ν' ∧ T'.1 ≤ T.1 + 125 ∧ ∀ c : Int, 0 ≤ c → c ≤ code → wit c code → ν' 41 c = ν' (-3902) 0) := by
  unfold g_X0_fillUpTo g_X0_fillUpTo_2
  refine gw_fx (fun (x : Int) U τ => (0 ≤ x ∧ x ≤ code + 1) ∧ fuQ T ν p code U τ ∧ (U.1 : Int) ≤ T.1 + x ∧ ∀ c : Int, 0 ≤ c → c < x → wit c code → τ 41 c = τ (-3902) 0) (fun x => (200 - x).toNat) ⟨by omega, ⟨gext.refl _, hi, hv, Nat.le_refl _, fun b _ _ _ => rfl, fun b hb => Or.inl hb⟩, by omega, fun c c1 c2 => by omega⟩ (by omega) ?_
  intro rec x U τ hI hrec
  obtain ⟨hx, ⟨f1, f2, f3, f4, f5, f6⟩, hU, hd⟩ := hI
  have nO : ∀ b : Int, b ≤ 104 → ¬ rO ν b := fun b hb ⟨c, c1, c2, c3, c4⟩ => by
    have := (hi.row ⟨c1, c2⟩ (by omega)).2.1
    omega
  have eR : ∀ b ∈ aBp, τ b = ν b := fun b hb => f5 b (by have := aBp_le b hb; omega) (aBp_no b hb) (nO b (aBp_le b hb))
  have e02 : τ (-3902) = ν (-3902) := f5 _ (by omega) (by decide) (nO _ (by omega))
  have hp' : eqC τ p := eqC_fr eR hp
  have h06' : 0 ≤ τ (-3906) 0 ∧ τ (-3906) 0 ≤ 1 := by rw [eR (-3906) (by decide)]; exact h06
  unfold gB_X0_fillUpTo_2 g_X0_fillUpTo_64
  refine gw_cb ⟨⟨by omega, by omega⟩, ⟨by omega, by omega⟩⟩ (fun c1 => gw_ret ⟨⟨f1, f2, f3, f4, f5, f6⟩, by omega, fun c a b w => hd c a (by omega) w⟩) (fun c1 => gw_al ⟨by omega, by omega⟩ (gw_get ?_))
  have hag := f2.2.2.1 x (by omega) (by omega)
  have hag2 := f2.2.2.2
  refine gw_cb ⟨⟨by omega, by omega⟩, ⟨by omega, by omega⟩⟩ (fun c2 => gw_let (hrec _ _ _ ⟨by omega, ⟨f1, f2, f3, f4, f5, f6⟩, by omega, fun c a b w => ?_⟩ (by omega))) (fun c2 => gw_rd (d_X0_isPartOf ⟨by omega, by omega⟩ hcode) ?_)
  · by_cases e : c = x
    · rw [e]; exact c2
    · exact hd c a (by omega) w
  · by_cases cw : wit x code
    · rw [if_pos (show pcs x 0 ≤ pcs code 0 ∧ pcs x 1 ≤ pcs code 1 ∧ pcs x 2 ≤ pcs code 2 from cw)]
      refine gw_cz (by decide) (fun h => absurd h (by decide)) (fun _ => gw_al ⟨by omega, by omega⟩ ?_)
      have h48 : ∀ (V : gT) (σ : gN), fuQ T ν p code V σ → (V.1 : Int) ≤ T.1 + x + 1 → σ 40 x ≠ 0 → (∀ c : Int, 0 ≤ c → c < x → wit c code → σ 41 c = σ (-3902) 0) → gw (g_X0_fillUpTo_48 rec code x) V σ (fun _ T' ν' => fuQ T ν p code T' ν' ∧ T'.1 ≤ T.1 + 125 ∧ ∀ c : Int, 0 ≤ c → c ≤ code → wit c code → ν' 41 c = ν' (-3902) 0) := fun V σ hQ hV1 hn hdd => by
        obtain ⟨g1, g2, g3, g4, g5, g6⟩ := hQ
        have eR' : ∀ b ∈ aBp, σ b = ν b := fun b hb => g5 b (by have := aBp_le b hb; omega) (aBp_no b hb) (nO b (aBp_le b hb))
        have hsp := s_fill48 (T := V) (ν := σ) (p := p) (x := x) (code := code) (eqC_fr eR' hp) hok (by rw [eR' (-3906) (by decide)]; exact h06) g2 g3 (by omega) (by omega) hn cw hdd
        have aRx := (g2.row (c := x) (by omega) hn).2.1
        unfold g_X0_fillUpTo_48 g_X0_fillUpTo_64
        refine gw_callv hsp (fun r ν2 h2 => gw_get (gw_as ⟨by omega, by omega⟩ (gw_let ?_)))
        obtain ⟨k1, k2, k3⟩ := h2
        have n02 : ν2 (-3902) = σ (-3902) := k1 _ (by simp only [List.mem_cons, List.not_mem_nil, or_false]; omega)
        have n40 : ν2 40 = σ 40 := k1 _ (by simp only [List.mem_cons, List.not_mem_nil, or_false]; omega)
        have n41 : ν2 41 = σ 41 := k1 _ (by simp only [List.mem_cons, List.not_mem_nil, or_false]; omega)
        rw [n02]
        refine hrec _ _ _ ⟨by omega, ⟨g1, k2, k3, ?_, fun b b1 b2 b3 => ?_, fun b hb => g6 b ?_⟩, by omega, fun c a b w => ?_⟩ (by omega)
        · unfold bsP
          rw [gup_ne (by decide), n40]; exact g4
        · simp only [List.mem_cons, List.not_mem_nil, or_false, not_or] at b2
          rw [gup_ne (by omega), k1 b (by
            simp only [List.mem_cons, List.not_mem_nil, or_false]
            intro hh
            rcases hh with hh | hh | hh | hh
            · omega
            · omega
            · omega
            · rcases g6 b ⟨x, by omega, by omega, hh.symm, by omega⟩ with q | q
              · exact b3 q
              · omega)]
          exact g5 b b1 (by simp only [List.mem_cons, List.not_mem_nil, or_false]; omega) b3
        · obtain ⟨c, c3, c4, c5, c6⟩ := hb
          rw [gup_ne (by decide), n40] at c5
          exact ⟨c, c3, c4, c5, c6⟩
        · rw [gup_same, gup_ne (by decide), n02, n41]
          by_cases e : c = x
          · rw [if_pos e]
          · rw [if_neg e]; exact hdd c a (by omega) w
      refine gw_it (fun c3 => h48 U τ ⟨f1, f2, f3, f4, f5, f6⟩ (by omega) c3 hd) (fun c3 => ?_)
      have c3' : τ 40 x = 0 := by omega
      have hnl : 1 ≤ nlR (τ 40) 125 := by
        have := nlR_set (f := τ 40) (c := x) (v := 1) c3' (by decide) 125 (by omega) (by omega)
        omega
      have hroom : gsl U + 861 ≤ hf_cs := by unfold bsP at f4 hs; omega
      have hU104 : 104 ≤ U.1 := Nat.le_trans h104 f1.1
      refine gw_na (by decide) (by omega) hroom (gw_ob (arr_made 861 hU104).1 (gw_as ⟨by omega, by omega⟩ ?_))
      have eN : ∀ b : Int, b ≤ U.1 → b ≠ 40 → gup (gnN U τ) 40 x ((U.1 + 1 : Nat) : Int) b = τ b := fun b hb hne => by
        rw [gup_ne hne]
        funext j
        unfold gnN
        rw [if_neg (by omega)]
      have e40 : ∀ c : Int, gup (gnN U τ) 40 x ((U.1 + 1 : Nat) : Int) 40 c = if c = x then ((U.1 + 1 : Nat) : Int) else τ 40 c := fun c => by
        rw [gup_same]
        by_cases e : c = x
        · rw [if_pos e, if_pos e]
        · rw [if_neg e, if_neg e]
          unfold gnN
          rw [if_neg (by omega)]
      have e41 := eN 41 (by omega) (by decide)
      have e02' := eN (-3902) (by omega) (by decide)
      have hold : ∀ c : Int, 0 ≤ c → c < 125 → τ 40 c ≠ 0 → (τ 40 c).toNat ≤ U.1 ∧ 104 < τ 40 c := fun c a b hn => by
        have := f2.row ⟨a, b⟩ hn
        exact ⟨this.1.2.1, this.2.1⟩
      have hfu : gsl (gnT U 20 861) = gsl U + 861 := gsl_new U 20 861
      refine h48 _ _ ⟨f1.trans (gext.new U 20 861), ⟨fun c a b => ?_, fun c c' a b a' b' hne hn => ?_, ?_, ?_⟩, ?_, ?_, fun b b1 b2 b3 => ?_, fun b hb => ?_⟩ (by show ((U.1 + 1 : Nat) : Int) ≤ _; omega) (by rw [e40, if_pos rfl]; omega) (fun c a b w => by rw [e41, e02']; exact hd c a b w)
      · rw [e40]
        by_cases e : c = x
        · rw [if_pos e]; exact Or.inr (arr_made 861 hU104)
        · rw [if_neg e]
          rcases f2.1 c a b with q | q
          · exact Or.inl q
          · exact Or.inr (arr_new q)
      · rw [e40] at hn ⊢
        rw [e40]
        by_cases e : c = x
        · rw [if_pos e, if_neg (by omega)]
          intro hh
          by_cases h9 : τ 40 c' = 0
          · omega
          · have := hold c' a' b' h9; omega
        · rw [if_neg e] at hn ⊢
          by_cases e' : c' = x
          · rw [if_pos e']
            have := hold c a b hn; omega
          · rw [if_neg e']
            exact f2.2.1 c c' a b a' b' hne hn
      · rw [e41, e02']; exact f2.2.2.1
      · rw [e02']; exact f2.2.2.2
      · intro c a b hc2
        rw [e41, e02'] at hc2
        have hcx : c ≠ x := fun e => by rw [e] at hc2; exact c2 hc2
        obtain ⟨r1, r2⟩ := f3 c a b hc2
        unfold rowV
        rw [e40, if_neg hcx]
        have := r1.1.2.1
        refine ⟨arr_new r1, fun u v u1 u2 u3 => ?_⟩
        rw [eN _ (by have := r1.1.1; omega) (by have := r1.2.1; omega)]
        exact r2 u v u1 u2 u3
      · have h1 := nlR_set (f := τ 40) (c := x) (v := ((U.1 + 1 : Nat) : Int)) c3' (by omega) 125 (by omega) (by omega)
        have h2 : nlR (gup (gnN U τ) 40 x ((U.1 + 1 : Nat) : Int) 40) 125 = nlR (fun i => if i = x then ((U.1 + 1 : Nat) : Int) else τ 40 i) 125 := nlR_same 125 (fun i _ _ => e40 i)
        show gsl (gnT U 20 861) + bsP _ ≤ _
        unfold bsP at f4 ⊢
        rw [h2]
        omega
      · simp only [List.mem_cons, List.not_mem_nil, or_false, not_or] at b2
        rw [eN b (by have := f1.1; omega) (by omega)]
        exact f5 b b1 (by simp only [List.mem_cons, List.not_mem_nil, or_false]; omega) b3
      · obtain ⟨c, a, b', hc3, hc4⟩ := hb
        rw [e40] at hc3
        by_cases e : c = x
        · rw [if_pos e] at hc3
          right
          have := f1.1
          omega
        · rw [if_neg e] at hc3
          exact f6 b ⟨c, a, b', hc3, hc4⟩
    · rw [if_neg (show ¬ (pcs x 0 ≤ pcs code 0 ∧ pcs x 1 ≤ pcs code 1 ∧ pcs x 2 ≤ pcs code 2) from cw)]
      refine gw_cz (by decide) (fun _ => gw_let (hrec _ _ _ ⟨by omega, ⟨f1, f2, f3, f4, f5, f6⟩, by omega, fun c a b w => ?_⟩ (by omega))) (fun h => absurd rfl h)
      by_cases e : c = x
      · exact absurd (e ▸ w) cw
      · exact hd c a (by omega) w
end
