/-! THE PURE PART: what a program of the plain machine comes to -/
def hw {α : Type} (m : hf_M α) (σ : hf_S) (Q : α → hf_S → Prop) : Prop := ∃ (r : α) (σ' : hf_S), m σ = some (r, σ') ∧ Q r σ'
section HW
variable {α β : Type} {σ : hf_S} {Q : α → hf_S → Prop}
theorem hw_mono {m : hf_M α} {Q' : α → hf_S → Prop} (h : hw m σ Q') (hq : ∀ r σ', Q' r σ' → Q r σ') : hw m σ Q := by
  obtain ⟨r, σ', h1, h2⟩ := h
  exact ⟨r, σ', h1, hq r σ' h2⟩
theorem hw_ret {a : α} (h : Q a σ) : hw (hf_ret a) σ Q := ⟨a, σ, rfl, h⟩
theorem hw_bd {m : hf_M β} {f : β → hf_M α} (h : hw m σ (fun r σ' => hw (f r) σ' Q)) : hw (hf_bd m f) σ Q := by
  obtain ⟨r, σ', h1, r2, σ2, h2, h3⟩ := h
  exact ⟨r2, σ2, by unfold hf_bd; rw [h1]; exact h2, h3⟩
theorem hw_bd_ret {b : β} {f : β → hf_M α} (h : hw (f b) σ Q) : hw (hf_bd (hf_ret b) f) σ Q := hw_bd (hw_ret h)
/-- a call, by what is known of it -/
theorem hw_call {m : hf_M β} {f : β → hf_M α} {Q' : β → hf_S → Prop} (h : hw m σ Q') (k : ∀ r σ', Q' r σ' → hw (f r) σ' Q) : hw (hf_bd m f) σ Q := hw_bd (hw_mono h k)
theorem hw_gf {tg k : Nat} {o : Int} {Q : Int → hf_S → Prop} (hi : hf_is σ tg o) (h : Q (σ.2.2 o.toNat k) σ) : hw (hf_gf tg k o) σ Q := ⟨_, σ, by unfold hf_gf; rw [if_pos hi], h⟩
theorem hw_pf {tg k : Nat} {o v : Int} {Q : Unit → hf_S → Prop} (hi : hf_is σ tg o) (h : Q () (σ.1, σ.2.1, hf_up σ.2.2 o.toNat k v)) : hw (hf_pf tg k o v) σ Q := ⟨_, _, by unfold hf_pf; rw [if_pos hi], h⟩
theorem hw_al {tg : Nat} {o i : Int} {Q : Int → hf_S → Prop} (hi : hf_is σ tg o) (h0 : 0 ≤ i) (h1 : i < (σ.2.1 o.toNat).2) (h : Q (σ.2.2 o.toNat i.toNat) σ) : hw (hf_al tg o i) σ Q := ⟨_, σ, by unfold hf_al; rw [if_pos ⟨hi, h0, h1⟩], h⟩
theorem hw_as {tg : Nat} {o i v : Int} {Q : Unit → hf_S → Prop} (hi : hf_is σ tg o) (h0 : 0 ≤ i) (h1 : i < (σ.2.1 o.toNat).2) (h : Q () (σ.1, σ.2.1, hf_up σ.2.2 o.toNat i.toNat v)) : hw (hf_as tg o i v) σ Q := ⟨_, _, by unfold hf_as; rw [if_pos ⟨hi, h0, h1⟩], h⟩
theorem hw_an {tg : Nat} {o : Int} {Q : Int → hf_S → Prop} (hi : hf_is σ tg o) (h : Q ((σ.2.1 o.toNat).2 : Int) σ) : hw (hf_an tg o) σ Q := ⟨_, σ, by unfold hf_an; rw [if_pos hi], h⟩
theorem hw_ck {c : Prop} [Decidable c] {k : hf_M α} (hc : c) (h : hw k σ Q) : hw (hf_ck c k) σ Q := by
  obtain ⟨r, σ', h1, h2⟩ := h
  exact ⟨r, σ', by unfold hf_ck; rw [if_pos hc]; exact h1, h2⟩
theorem hw_ob {tg : Nat} {o : Int} {k : hf_M α} (hi : hf_is σ tg o) (h : hw k σ Q) : hw (hf_ob tg o k) σ Q := by
  obtain ⟨r, σ', h1, h2⟩ := h
  exact ⟨r, σ', by unfold hf_ob; rw [if_pos hi]; exact h1, h2⟩
theorem hw_cb {a b : Int} {c : Prop} [Decidable c] {k1 k2 : hf_M α} (ha : hf_inI a) (hb : hf_inI b) (h1 : c → hw k1 σ Q) (h2 : ¬ c → hw k2 σ Q) : hw (hf_cb a b c k1 k2) σ Q := by
  by_cases hc : c
  · obtain ⟨r, σ', g1, g2⟩ := h1 hc
    exact ⟨r, σ', by unfold hf_cb; rw [if_pos ⟨ha, hb⟩, if_pos hc]; exact g1, g2⟩
  · obtain ⟨r, σ', g1, g2⟩ := h2 hc
    exact ⟨r, σ', by unfold hf_cb; rw [if_pos ⟨ha, hb⟩, if_neg hc]; exact g1, g2⟩
theorem hw_cz {a : Int} {c : Prop} [Decidable c] {k1 k2 : hf_M α} (ha : hf_inI a) (h1 : c → hw k1 σ Q) (h2 : ¬ c → hw k2 σ Q) : hw (hf_cz a c k1 k2) σ Q := by
  by_cases hc : c
  · obtain ⟨r, σ', g1, g2⟩ := h1 hc
    exact ⟨r, σ', by unfold hf_cz; rw [if_pos ha, if_pos hc]; exact g1, g2⟩
  · obtain ⟨r, σ', g1, g2⟩ := h2 hc
    exact ⟨r, σ', by unfold hf_cz; rw [if_pos ha, if_neg hc]; exact g1, g2⟩
theorem hw_cl {a b : Int} {c : Prop} [Decidable c] {k1 k2 : hf_M α} (ha : hf_inL a) (hb : hf_inL b) (h1 : c → hw k1 σ Q) (h2 : ¬ c → hw k2 σ Q) : hw (hf_cl a b c k1 k2) σ Q := by
  by_cases hc : c
  · obtain ⟨r, σ', g1, g2⟩ := h1 hc
    exact ⟨r, σ', by unfold hf_cl; rw [if_pos ⟨ha, hb⟩, if_pos hc]; exact g1, g2⟩
  · obtain ⟨r, σ', g1, g2⟩ := h2 hc
    exact ⟨r, σ', by unfold hf_cl; rw [if_pos ⟨ha, hb⟩, if_neg hc]; exact g1, g2⟩
theorem hw_it {c : Prop} [Decidable c] {k1 k2 : hf_M α} (h1 : c → hw k1 σ Q) (h2 : ¬ c → hw k2 σ Q) : hw (hf_it c k1 k2) σ Q := by
  by_cases hc : c
  · obtain ⟨r, σ', g1, g2⟩ := h1 hc
    exact ⟨r, σ', by unfold hf_it; rw [if_pos hc]; exact g1, g2⟩
  · obtain ⟨r, σ', g1, g2⟩ := h2 hc
    exact ⟨r, σ', by unfold hf_it; rw [if_neg hc]; exact g1, g2⟩
theorem hw_dv {a b : Int} {Q : Int → hf_S → Prop} (ha : hf_inI a) (hb : hf_inI b) (h0 : b ≠ 0) (h : Q (a.tdiv b) σ) : hw (hf_dv a b) σ Q := ⟨_, σ, by unfold hf_dv; rw [if_pos ⟨ha, hb, h0⟩], h⟩
theorem hw_rm {a b : Int} {Q : Int → hf_S → Prop} (ha : hf_inI a) (hb : hf_inI b) (h0 : b ≠ 0) (h : Q (a.tmod b) σ) : hw (hf_rm a b) σ Q := ⟨_, σ, by unfold hf_rm; rw [if_pos ⟨ha, hb, h0⟩], h⟩
theorem hw_dvl {a b : Int} {Q : Int → hf_S → Prop} (ha : hf_inL a) (hb : hf_inL b) (h0 : b ≠ 0) (h : Q (a.tdiv b) σ) : hw (hf_dvl a b) σ Q := ⟨_, σ, by unfold hf_dvl; rw [if_pos ⟨ha, hb, h0⟩], h⟩
theorem hw_rml {a b : Int} {Q : Int → hf_S → Prop} (ha : hf_inL a) (hb : hf_inL b) (h0 : b ≠ 0) (h : Q (a.tmod b) σ) : hw (hf_rml a b) σ Q := ⟨_, σ, by unfold hf_rml; rw [if_pos ⟨ha, hb, h0⟩], h⟩
theorem hw_nw {tg len : Nat} {Q : Int → hf_S → Prop} (h1 : σ.1 + 1 ≤ hf_cc) (h2 : hf_sl σ + len ≤ hf_cs) (h : Q ((σ.1 + 1 : Nat) : Int) (σ.1 + 1, (fun a => if a = σ.1 + 1 then (tg, len) else σ.2.1 a), (fun b j => if b = σ.1 + 1 then 0 else σ.2.2 b j))) : hw (hf_nw tg len) σ Q := ⟨_, _, by unfold hf_nw; rw [if_pos ⟨h1, h2⟩], h⟩
theorem hw_na {tg : Nat} {n : Int} {Q : Int → hf_S → Prop} (h0 : 0 ≤ n) (h : hw (hf_nw tg n.toNat) σ Q) : hw (hf_na tg n) σ Q := by
  obtain ⟨r, σ', h1, h2⟩ := h
  exact ⟨r, σ', by unfold hf_na; rw [if_pos h0]; exact h1, h2⟩
/-- a loop, by what holds at its head and what goes down -/
theorem hw_fx {S : Type} {F : (S → hf_M α) → S → hf_M α} (I : S → hf_S → Prop) (z : S → hf_S → Nat)
    (hs : ∀ (rec : S → hf_M α) (s : S) (τ : hf_S), I s τ → (∀ s' τ', I s' τ' → z s' τ' < z s τ → hw (rec s') τ' Q) → hw (F rec s) τ Q) :
    ∀ (n : Nat) (s : S) (τ : hf_S), I s τ → z s τ < n → hw (hf_fx F n s) τ Q := by
  intro n
  induction n with
  | zero => intro s τ _ h; exact absurd h (Nat.not_lt_zero _)
  | succ n ih =>
    intro s τ hI hz
    show hw (F (hf_fx F n) s) τ Q
    exact hs _ s τ hI (fun s' τ' h1 h2 => ih s' τ' h1 (by omega))
end HW
/-- nothing is made, and only rows in W may change -/
def hw_fr (W : Nat → Prop) (σ σ' : hf_S) : Prop := σ'.1 = σ.1 ∧ σ'.2.1 = σ.2.1 ∧ ∀ a, ¬ W a → σ'.2.2 a = σ.2.2 a
theorem hw_fr.refl (W : Nat → Prop) (σ : hf_S) : hw_fr W σ σ := ⟨rfl, rfl, fun _ _ => rfl⟩
theorem hw_fr.trans {W W' : Nat → Prop} {σ σ1 σ2 : hf_S} (h1 : hw_fr W σ σ1) (h2 : hw_fr W' σ1 σ2) (hW : ∀ a, W' a → W a) : hw_fr W σ σ2 := ⟨h2.1.trans h1.1, h2.2.1.trans h1.2.1, fun a ha => (h2.2.2 a (fun h => ha (hW a h))).trans (h1.2.2 a ha)⟩
theorem hw_fr.mono {W W' : Nat → Prop} {σ σ1 : hf_S} (h : hw_fr W σ σ1) (hW : ∀ a, W a → W' a) : hw_fr W' σ σ1 := ⟨h.1, h.2.1, fun a ha => h.2.2 a (fun hw => ha (hW a hw))⟩
theorem hw_up_ne {μ : Nat → Nat → Int} {a k b : Nat} {v : Int} (h : b ≠ a) : hf_up μ a k v b = μ b := by
  funext j
  unfold hf_up
  rw [if_neg (fun hh => h hh.1)]
theorem hw_up_at {μ : Nat → Nat → Int} {a k : Nat} {v : Int} : hf_up μ a k v a k = v := by
  unfold hf_up
  rw [if_pos ⟨rfl, rfl⟩]
theorem hw_up_nj {μ : Nat → Nat → Int} {a b k j : Nat} {v : Int} (h : j ≠ k) : hf_up μ a k v b j = μ b j := by
  unfold hf_up
  rw [if_neg (fun hh => h hh.2)]
theorem hw_fr.up {W : Nat → Prop} {σ : hf_S} {a k : Nat} {v : Int} (h : W a) : hw_fr W σ (σ.1, σ.2.1, hf_up σ.2.2 a k v) := ⟨rfl, rfl, fun b hb => hw_up_ne (fun e => hb (e ▸ h))⟩
