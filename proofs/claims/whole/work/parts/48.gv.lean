/-! WHAT A PROGRAM OF THE FLAT MACHINE COMES TO -/
section
variable {α β : Type} {T : gT} {ν : gN} {Q : α → gN → Prop}
/-- without making anything -/
def gv (m : gM α) (T : gT) (ν : gN) (Q : α → gN → Prop) : Prop := ∃ r ν', m (T, ν) = some (r, (T, ν')) ∧ Q r ν'
/-- with making -/
def gw (m : gM α) (T : gT) (ν : gN) (Q : α → gT → gN → Prop) : Prop := ∃ r T' ν', m (T, ν) = some (r, (T', ν')) ∧ Q r T' ν'
/-- only reading -/
def gd (m : gM α) (T : gT) (ν : gN) (v : α) : Prop := m (T, ν) = some (v, (T, ν))
theorem gv.mono {m : gM α} {Q' : α → gN → Prop} (h : gv m T ν Q') (hq : ∀ r ν', Q' r ν' → Q r ν') : gv m T ν Q := by
  obtain ⟨r, ν', h1, h2⟩ := h
  exact ⟨r, ν', h1, hq r ν' h2⟩
theorem gv.w {m : gM α} {Q' : α → gT → gN → Prop} (h : gv m T ν (fun r ν' => Q' r T ν')) : gw m T ν Q' := by
  obtain ⟨r, ν', h1, h2⟩ := h
  exact ⟨r, T, ν', h1, h2⟩
theorem gw.mono {m : gM α} {Q Q' : α → gT → gN → Prop} (h : gw m T ν Q') (hq : ∀ r T' ν', Q' r T' ν' → Q r T' ν') : gw m T ν Q := by
  obtain ⟨r, T', ν', h1, h2⟩ := h
  exact ⟨r, T', ν', h1, hq r T' ν' h2⟩
theorem gv_ret {a : α} (h : Q a ν) : gv (gret a) T ν Q := ⟨a, ν, rfl, h⟩
theorem gv_bd {m : gM β} {f : β → gM α} (h : gv m T ν (fun r ν' => gv (f r) T ν' Q)) : gv (gbd m f) T ν Q := by
  obtain ⟨r, ν', h1, r2, ν2, h2, h3⟩ := h
  exact ⟨r2, ν2, by unfold gbd; rw [h1]; exact h2, h3⟩
theorem gv_call {m : gM β} {f : β → gM α} {Q' : β → gN → Prop} (h : gv m T ν Q') (k : ∀ r ν', Q' r ν' → gv (f r) T ν' Q) : gv (gbd m f) T ν Q := gv_bd (h.mono k)
theorem gv_rd {m : gM β} {f : β → gM α} {v : β} (h : gd m T ν v) (k : gv (f v) T ν Q) : gv (gbd m f) T ν Q := gv_bd ⟨v, ν, h, k⟩
theorem gw_call {m : gM β} {f : β → gM α} {Q' : β → gT → gN → Prop} {Q : α → gT → gN → Prop} (h : gw m T ν Q') (k : ∀ r T' ν', Q' r T' ν' → gw (f r) T' ν' Q) : gw (gbd m f) T ν Q := by
  obtain ⟨r, T', ν', h1, h2⟩ := h
  obtain ⟨r2, T2, ν2, k1, k2⟩ := k r T' ν' h2
  exact ⟨r2, T2, ν2, by unfold gbd; rw [h1]; exact k1, k2⟩
theorem gd.v {m : gM α} {v : α} (h : gd m T ν v) : gv m T ν (fun r ν' => r = v ∧ ν' = ν) := ⟨v, ν, h, rfl, rfl⟩
theorem gv.d {m : gM α} {v : α} (h : gv m T ν (fun r ν' => r = v ∧ ν' = ν)) : gd m T ν v := by
  obtain ⟨r, ν', h1, rfl, rfl⟩ := h
  exact h1
theorem gv_get {x : Int} {f : Int → gM α} (h : gv (f (ν x 0)) T ν Q) : gv (gget x f) T ν Q := h
theorem gv_put {x v : Int} {k : gM α} (h : gv k T (gup ν x 0 v) Q) : gv (gput x v k) T ν Q := h
theorem gv_let {x : Int} {f : Int → gM α} (h : gv (f x) T ν Q) : gv (glet x f) T ν Q := h
theorem gv_al {x len i : Int} {f : Int → gM α} (hi : 0 ≤ i ∧ i < len) (h : gv (f (ν x i)) T ν Q) : gv (gal x len i f) T ν Q := by
  obtain ⟨r, ν', h1, h2⟩ := h
  exact ⟨r, ν', by unfold gal; rw [if_pos hi]; exact h1, h2⟩
theorem gv_as {x len i v : Int} {k : gM α} (hi : 0 ≤ i ∧ i < len) (h : gv k T (gup ν x i v) Q) : gv (gas x len i v k) T ν Q := by
  obtain ⟨r, ν', h1, h2⟩ := h
  exact ⟨r, ν', by unfold gas; rw [if_pos hi]; exact h1, h2⟩
theorem gv_ald {tg : Nat} {o i : Int} {f : Int → gM α} (ho : gis T tg o) (h0 : 0 ≤ i) (h1 : i < (T.2 o.toNat).2) (h : gv (f (ν o i)) T ν Q) : gv (gald tg o i f) T ν Q := by
  obtain ⟨r, ν', g1, g2⟩ := h
  exact ⟨r, ν', by unfold gald; rw [if_pos ⟨ho, h0, h1⟩]; exact g1, g2⟩
theorem gv_asd {tg : Nat} {o i v : Int} {k : gM α} (ho : gis T tg o) (h2 : 104 < o) (h0 : 0 ≤ i) (h1 : i < (T.2 o.toNat).2) (h : gv k T (gup ν o i v) Q) : gv (gasd tg o i v k) T ν Q := by
  obtain ⟨r, ν', g1, g2⟩ := h
  exact ⟨r, ν', by unfold gasd; rw [if_pos ⟨ho, h2, h0, h1⟩]; exact g1, g2⟩
theorem gv_and {tg : Nat} {o : Int} {f : Int → gM α} (ho : gis T tg o) (h : gv (f ((T.2 o.toNat).2 : Int)) T ν Q) : gv (gand tg o f) T ν Q := by
  obtain ⟨r, ν', g1, g2⟩ := h
  exact ⟨r, ν', by unfold gand; rw [if_pos ho]; exact g1, g2⟩
theorem gv_ck {c : Prop} [Decidable c] {k : gM α} (hc : c) (h : gv k T ν Q) : gv (gck c k) T ν Q := by
  obtain ⟨r, ν', h1, h2⟩ := h
  exact ⟨r, ν', by unfold gck; rw [if_pos hc]; exact h1, h2⟩
theorem gv_it {c : Prop} [Decidable c] {k1 k2 : gM α} (h1 : c → gv k1 T ν Q) (h2 : ¬ c → gv k2 T ν Q) : gv (git c k1 k2) T ν Q := by
  by_cases hc : c
  · obtain ⟨r, ν', g1, g2⟩ := h1 hc
    exact ⟨r, ν', by unfold git; rw [if_pos hc]; exact g1, g2⟩
  · obtain ⟨r, ν', g1, g2⟩ := h2 hc
    exact ⟨r, ν', by unfold git; rw [if_neg hc]; exact g1, g2⟩
theorem gv_cb {a b : Int} {c : Prop} [Decidable c] {k1 k2 : gM α} (hi : (-2147483648 ≤ a ∧ a ≤ 2147483647) ∧ (-2147483648 ≤ b ∧ b ≤ 2147483647)) (h1 : c → gv k1 T ν Q) (h2 : ¬ c → gv k2 T ν Q) : gv (gcb a b c k1 k2) T ν Q := by
  obtain ⟨r, ν', g1, g2⟩ := gv_it h1 h2
  exact ⟨r, ν', by unfold gcb; rw [if_pos hi]; exact g1, g2⟩
theorem gv_cz {a : Int} {c : Prop} [Decidable c] {k1 k2 : gM α} (hi : -2147483648 ≤ a ∧ a ≤ 2147483647) (h1 : c → gv k1 T ν Q) (h2 : ¬ c → gv k2 T ν Q) : gv (gcz a c k1 k2) T ν Q := by
  obtain ⟨r, ν', g1, g2⟩ := gv_it h1 h2
  exact ⟨r, ν', by unfold gcz; rw [if_pos hi]; exact g1, g2⟩
theorem gv_cl {a b : Int} {c : Prop} [Decidable c] {k1 k2 : gM α} (hi : (-9223372036854775808 ≤ a ∧ a ≤ 9223372036854775807) ∧ (-9223372036854775808 ≤ b ∧ b ≤ 9223372036854775807)) (h1 : c → gv k1 T ν Q) (h2 : ¬ c → gv k2 T ν Q) : gv (gcl a b c k1 k2) T ν Q := by
  obtain ⟨r, ν', g1, g2⟩ := gv_it h1 h2
  exact ⟨r, ν', by unfold gcl; rw [if_pos hi]; exact g1, g2⟩
theorem gv_dv {a b : Int} {f : Int → gM α} (hi : (-2147483648 ≤ a ∧ a ≤ 2147483647) ∧ (-2147483648 ≤ b ∧ b ≤ 2147483647) ∧ b ≠ 0) (h : gv (f (a.tdiv b)) T ν Q) : gv (gdv a b f) T ν Q := by
  obtain ⟨r, ν', h1, h2⟩ := h
  exact ⟨r, ν', by unfold gdv; rw [if_pos hi]; exact h1, h2⟩
theorem gv_rm {a b : Int} {f : Int → gM α} (hi : (-2147483648 ≤ a ∧ a ≤ 2147483647) ∧ (-2147483648 ≤ b ∧ b ≤ 2147483647) ∧ b ≠ 0) (h : gv (f (a.tmod b)) T ν Q) : gv (grm a b f) T ν Q := by
  obtain ⟨r, ν', h1, h2⟩ := h
  exact ⟨r, ν', by unfold grm; rw [if_pos hi]; exact h1, h2⟩
theorem gv_dvl {a b : Int} {f : Int → gM α} (hi : (-9223372036854775808 ≤ a ∧ a ≤ 9223372036854775807) ∧ (-9223372036854775808 ≤ b ∧ b ≤ 9223372036854775807) ∧ b ≠ 0) (h : gv (f (a.tdiv b)) T ν Q) : gv (gdvl a b f) T ν Q := by
  obtain ⟨r, ν', h1, h2⟩ := h
  exact ⟨r, ν', by unfold gdvl; rw [if_pos hi]; exact h1, h2⟩
theorem gv_rml {a b : Int} {f : Int → gM α} (hi : (-9223372036854775808 ≤ a ∧ a ≤ 9223372036854775807) ∧ (-9223372036854775808 ≤ b ∧ b ≤ 9223372036854775807) ∧ b ≠ 0) (h : gv (f (a.tmod b)) T ν Q) : gv (grml a b f) T ν Q := by
  obtain ⟨r, ν', h1, h2⟩ := h
  exact ⟨r, ν', by unfold grml; rw [if_pos hi]; exact h1, h2⟩
/-- a loop, by what holds at its head and what goes down -/
theorem gv_fx {S : Type} {F : (S → gM α) → S → gM α} (I : S → gN → Prop) (z : S → gN → Nat) {s : S} (hI : I s ν) (hz : z s ν < 100000)
    (hs : ∀ (rec : S → gM α) (s : S) (τ : gN), I s τ → (∀ s' τ', I s' τ' → z s' τ' < z s τ → gv (rec s') T τ' Q) → gv (F rec s) T τ Q) :
    gv (gfx F hf_N s) T ν Q := by
  have h : ∀ (n : Nat) (s : S) (τ : gN), I s τ → z s τ < n → gv (gfx F n s) T τ Q := by
    intro n
    induction n with
    | zero => intro s τ _ h; exact absurd h (Nat.not_lt_zero _)
    | succ n ih =>
      intro s τ hI hz
      exact hs _ s τ hI (fun s' τ' h1 h2 => ih s' τ' h1 (by omega))
  exact h _ _ _ hI hz
/-! reading only -/
theorem gd_ret {a : α} : gd (gret a) T ν a := rfl
theorem gd_get {x : Int} {f : Int → gM α} {v : α} (h : gd (f (ν x 0)) T ν v) : gd (gget x f) T ν v := h
theorem gd_let {x : Int} {f : Int → gM α} {v : α} (h : gd (f x) T ν v) : gd (glet x f) T ν v := h
theorem gd_rd {m : gM β} {f : β → gM α} {u : β} {v : α} (h : gd m T ν u) (k : gd (f u) T ν v) : gd (gbd m f) T ν v := by
  show (m (T, ν)).bind _ = _
  rw [show m (T, ν) = _ from h]
  exact k
theorem gd_al {x len i : Int} {f : Int → gM α} {v : α} (hi : 0 ≤ i ∧ i < len) (h : gd (f (ν x i)) T ν v) : gd (gal x len i f) T ν v := by
  show (if _ then _ else _) = _
  rw [if_pos hi]; exact h
theorem gd_ald {tg : Nat} {o i : Int} {f : Int → gM α} {v : α} (ho : gis T tg o) (h0 : 0 ≤ i) (h1 : i < (T.2 o.toNat).2) (h : gd (f (ν o i)) T ν v) : gd (gald tg o i f) T ν v := by
  show (if _ then _ else _) = _
  rw [if_pos ⟨ho, h0, h1⟩]; exact h
theorem gd_ck {c : Prop} [Decidable c] {k : gM α} {v : α} (hc : c) (h : gd k T ν v) : gd (gck c k) T ν v := by
  show (if _ then _ else _) = _
  rw [if_pos hc]; exact h
theorem gd_it {c : Prop} [Decidable c] {k1 k2 : gM α} {v : α} (h1 : c → gd k1 T ν v) (h2 : ¬ c → gd k2 T ν v) : gd (git c k1 k2) T ν v := by
  show (if _ then _ else _) = _
  by_cases hc : c
  · rw [if_pos hc]; exact h1 hc
  · rw [if_neg hc]; exact h2 hc
theorem gd_cb {a b : Int} {c : Prop} [Decidable c] {k1 k2 : gM α} {v : α} (hi : (-2147483648 ≤ a ∧ a ≤ 2147483647) ∧ (-2147483648 ≤ b ∧ b ≤ 2147483647)) (h1 : c → gd k1 T ν v) (h2 : ¬ c → gd k2 T ν v) : gd (gcb a b c k1 k2) T ν v := by
  show (if _ then _ else _) = _
  rw [if_pos hi]; exact gd_it h1 h2
theorem gd_cz {a : Int} {c : Prop} [Decidable c] {k1 k2 : gM α} {v : α} (hi : -2147483648 ≤ a ∧ a ≤ 2147483647) (h1 : c → gd k1 T ν v) (h2 : ¬ c → gd k2 T ν v) : gd (gcz a c k1 k2) T ν v := by
  show (if _ then _ else _) = _
  rw [if_pos hi]; exact gd_it h1 h2
theorem gd_cl {a b : Int} {c : Prop} [Decidable c] {k1 k2 : gM α} {v : α} (hi : (-9223372036854775808 ≤ a ∧ a ≤ 9223372036854775807) ∧ (-9223372036854775808 ≤ b ∧ b ≤ 9223372036854775807)) (h1 : c → gd k1 T ν v) (h2 : ¬ c → gd k2 T ν v) : gd (gcl a b c k1 k2) T ν v := by
  show (if _ then _ else _) = _
  rw [if_pos hi]; exact gd_it h1 h2
theorem gd_dv {a b : Int} {f : Int → gM α} {v : α} (hi : (-2147483648 ≤ a ∧ a ≤ 2147483647) ∧ (-2147483648 ≤ b ∧ b ≤ 2147483647) ∧ b ≠ 0) (h : gd (f (a.tdiv b)) T ν v) : gd (gdv a b f) T ν v := by
  show (if _ then _ else _) = _
  rw [if_pos hi]; exact h
theorem gd_rm {a b : Int} {f : Int → gM α} {v : α} (hi : (-2147483648 ≤ a ∧ a ≤ 2147483647) ∧ (-2147483648 ≤ b ∧ b ≤ 2147483647) ∧ b ≠ 0) (h : gd (f (a.tmod b)) T ν v) : gd (grm a b f) T ν v := by
  show (if _ then _ else _) = _
  rw [if_pos hi]; exact h
theorem gd_fx {S : Type} {F : (S → gM α) → S → gM α} {v : α} (I : S → Prop) (z : S → Nat) {s : S} (hI : I s) (hz : z s < 100000)
    (hs : ∀ (rec : S → gM α) (s : S), I s → (∀ s', I s' → z s' < z s → gd (rec s') T ν v) → gd (F rec s) T ν v) :
    gd (gfx F hf_N s) T ν v := by
  have h : ∀ (n : Nat) (s : S), I s → z s < n → gd (gfx F n s) T ν v := by
    intro n
    induction n with
    | zero => intro s _ h; exact absurd h (Nat.not_lt_zero _)
    | succ n ih =>
      intro s hI hz
      exact hs _ s hI (fun s' h1 h2 => ih s' h1 (by omega))
  exact h _ _ hI hz
end
/-! rows that stay -/
theorem gup_at (ν : gN) (a i v : Int) : gup ν a i v a i = v := by unfold gup; rw [if_pos ⟨rfl, rfl⟩]
theorem gup_ne {ν : gN} {a i v b : Int} (h : b ≠ a) : gup ν a i v b = ν b := by
  funext j; unfold gup; rw [if_neg (fun e => h e.1)]
theorem gup_same (ν : gN) (a i v j : Int) : gup ν a i v a j = if j = i then v else ν a j := by
  unfold gup
  by_cases e : j = i
  · rw [if_pos ⟨rfl, e⟩, if_pos e]
  · rw [if_neg (fun h => e h.2), if_neg e]
/-- nothing but the rows in W has changed -/
def gfr (W : List Int) (ν ν' : gN) : Prop := ∀ b, b ∉ W → ν' b = ν b
theorem gfr.refl (W : List Int) (ν : gN) : gfr W ν ν := fun _ _ => rfl
theorem gfr.trans {W : List Int} {ν ν1 ν2 : gN} (h1 : gfr W ν ν1) (h2 : gfr W ν1 ν2) : gfr W ν ν2 := fun b hb => (h2 b hb).trans (h1 b hb)
theorem gfr.mono {W W' : List Int} {ν ν1 : gN} (h : gfr W ν ν1) (hW : ∀ b ∈ W, b ∈ W') : gfr W' ν ν1 := fun b hb => h b (fun hw => hb (hW b hw))
theorem gfr.up {W : List Int} {ν ν1 : gN} {a i v : Int} (h : gfr W ν ν1) (ha : a ∈ W) : gfr W ν (gup ν1 a i v) := fun b hb => (gup_ne (fun e : b = a => hb (by rw [e]; exact ha))).trans (h b hb)
/-- sums -/
def gsum (f : Int → Int) : Nat → Int
  | 0 => 0
  | n + 1 => gsum f n + f n
