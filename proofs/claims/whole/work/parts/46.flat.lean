/-! THE FLAT MACHINE: numbers by Int addresses and Int places; a field k of an object a is the address -(100 a + k) at 0; no pointers -/
abbrev gT : Type := Nat × (Nat → Nat × Nat)
abbrev gN : Type := Int → Int → Int
abbrev gS : Type := gT × gN
abbrev gM (α : Type) : Type := gS → Option (α × gS)
def gup (ν : gN) (a i v : Int) : gN := fun b j => if b = a ∧ j = i then v else ν b j
abbrev gis (T : gT) (tg : Nat) (o : Int) : Prop := 1 ≤ o ∧ o.toNat ≤ T.1 ∧ (T.2 o.toNat).1 = tg
def gsl (T : gT) : Nat := hf_sum (fun a => (T.2 a).2) T.1
def gnT (T : gT) (tg len : Nat) : gT := (T.1 + 1, fun a => if a = T.1 + 1 then (tg, len) else T.2 a)
def gnN (T : gT) (ν : gN) : gN := fun b j => if b = ((T.1 + 1 : Nat) : Int) then 0 else ν b j
section
variable {α β : Type}
def gret (a : α) : gM α := fun s => some (a, s)
def gnone : gM α := fun _ => none
def gbd (m : gM β) (f : β → gM α) : gM α := fun s => (m s).bind fun x => f x.1 x.2
def glet (x : Int) (f : Int → gM α) : gM α := f x
def gget (x : Int) (f : Int → gM α) : gM α := fun s => f (s.2 x 0) s
def gput (x v : Int) (k : gM α) : gM α := fun s => k (s.1, gup s.2 x 0 v)
def gal (x len i : Int) (f : Int → gM α) : gM α := fun s => if 0 ≤ i ∧ i < len then f (s.2 x i) s else none
def gas (x len i v : Int) (k : gM α) : gM α := fun s => if 0 ≤ i ∧ i < len then k (s.1, gup s.2 x i v) else none
def gald (tg : Nat) (o i : Int) (f : Int → gM α) : gM α := fun s => if gis s.1 tg o ∧ 0 ≤ i ∧ i < (s.1.2 o.toNat).2 then f (s.2 o i) s else none
def gasd (tg : Nat) (o i v : Int) (k : gM α) : gM α := fun s => if gis s.1 tg o ∧ 104 < o ∧ 0 ≤ i ∧ i < (s.1.2 o.toNat).2 then k (s.1, gup s.2 o i v) else none
def gand (tg : Nat) (o : Int) (f : Int → gM α) : gM α := fun s => if gis s.1 tg o then f ((s.1.2 o.toNat).2 : Int) s else none
def gob (tg : Nat) (o : Int) (k : gM α) : gM α := fun s => if gis s.1 tg o then k s else none
def gna (tg : Nat) (n : Int) (f : Int → gM α) : gM α := fun s => if 0 ≤ n ∧ s.1.1 + 1 ≤ hf_cc ∧ gsl s.1 + n.toNat ≤ hf_cs then f ((s.1.1 + 1 : Nat) : Int) (gnT s.1 tg n.toNat, gnN s.1 s.2) else none
def gxc (k : gM α) : gM α := fun s => if s.1.1 + 1 ≤ hf_cc ∧ gsl s.1 + 6 ≤ hf_cs then k (gnT s.1 99 6, gnN s.1 s.2) else none
def gck (c : Prop) [Decidable c] (k : gM α) : gM α := fun s => if c then k s else none
def gcb (a b : Int) (c : Prop) [Decidable c] (k1 k2 : gM α) : gM α := fun s => if hf_inI a ∧ hf_inI b then (if c then k1 s else k2 s) else none
def gcz (a : Int) (c : Prop) [Decidable c] (k1 k2 : gM α) : gM α := fun s => if hf_inI a then (if c then k1 s else k2 s) else none
def gcl (a b : Int) (c : Prop) [Decidable c] (k1 k2 : gM α) : gM α := fun s => if hf_inL a ∧ hf_inL b then (if c then k1 s else k2 s) else none
def git (c : Prop) [Decidable c] (k1 k2 : gM α) : gM α := fun s => if c then k1 s else k2 s
def gdv (a b : Int) (f : Int → gM α) : gM α := fun s => if hf_inI a ∧ hf_inI b ∧ b ≠ 0 then f (a.tdiv b) s else none
def grm (a b : Int) (f : Int → gM α) : gM α := fun s => if hf_inI a ∧ hf_inI b ∧ b ≠ 0 then f (a.tmod b) s else none
def gdvl (a b : Int) (f : Int → gM α) : gM α := fun s => if hf_inL a ∧ hf_inL b ∧ b ≠ 0 then f (a.tdiv b) s else none
def grml (a b : Int) (f : Int → gM α) : gM α := fun s => if hf_inL a ∧ hf_inL b ∧ b ≠ 0 then f (a.tmod b) s else none
def gsg (i : Int) (f : Int → gM α) : gM α := fun s => if 0 ≤ i ∧ i < (s.1.2 0).2 then f (s.2 0 i) s else none
def gsn (f : Int → gM α) : gM α := fun s => f ((s.1.2 0).2 : Int) s
def gfx {S R : Type} (F : (S → gM R) → S → gM R) : Nat → S → gM R
  | 0 => fun _ _ => none
  | n + 1 => F (gfx F n)
end
/-! HOW IT STANDS FOR THE PLAIN MACHINE -/
def gQ (T : gT) (μ : Nat → Nat → Int) (ν : gN) : Prop :=
  hl (T.1, T.2, μ) ∧ (T.2 0).1 = 20 ∧ (∀ a k : Nat, 1 ≤ a → (T.2 a).1 < 20 → k < 100 → μ a k = ν (-(100 * (a : Int) + (k : Int))) 0) ∧ (∀ a k : Nat, 20 ≤ (T.2 a).1 → μ a k = ν a k)
def gr {α : Type} (f : hf_M α) (g : gM α) : Prop := ∀ (T : gT) (μ : Nat → Nat → Int) (ν : gN), gQ T μ ν → ∀ (r : α) (s : gS), g (T, ν) = some (r, s) → ∃ μ', f (T.1, T.2, μ) = some (r, (s.1.1, s.1.2, μ')) ∧ gQ s.1 μ' s.2
theorem gQ.lay {T : gT} {μ : Nat → Nat → Int} {ν : gN} (h : gQ T μ ν) {a : Nat} (h1 : 1 ≤ a) (h2 : a ≤ 104) : T.2 a = hl_lay a := h.1.2.1 a h1 h2
theorem gQ.is {T : gT} {μ : Nat → Nat → Int} {ν : gN} (h : gQ T μ ν) {a tg : Nat} (h1 : 1 ≤ a) (h2 : a ≤ 104) (ht : (hl_lay a).1 = tg) : hf_is (T.1, T.2, μ) tg (a : Int) := by
  refine ⟨by omega, ?_, ?_⟩
  · have := h.1.1
    show (a : Int).toNat ≤ T.1
    have h3 : 104 ≤ T.1 := this
    omega
  · show (T.2 (a : Int).toNat).1 = tg
    rw [Int.toNat_natCast, h.lay h1 h2]; exact ht
/-- a field is written -/
theorem gQ.pf {T : gT} {μ : Nat → Nat → Int} {ν : gN} (h : gQ T μ ν) {a k : Nat} {v x : Int} (h1 : 1 ≤ a) (ht : (T.2 a).1 < 20) (hk : k < 100) (hx : x = -(100 * (a : Int) + (k : Int))) (hp : hl_ptr a k = 0) : gQ T (hf_up μ a k v) (gup ν x 0 v) := by
  subst hx
  refine ⟨⟨h.1.1, h.1.2.1, fun b j hb => ?_⟩, h.2.1, fun b j hb hb2 hj => ?_, fun b j hb => ?_⟩
  · show hf_up μ a k v b j = hl_ptr b j
    unfold hf_up
    rw [if_neg (fun e => hb (by rw [e.1, e.2]; exact hp))]
    exact h.1.2.2 b j hb
  · unfold hf_up gup
    by_cases e : b = a ∧ j = k
    · rw [if_pos e, if_pos ⟨by rw [e.1, e.2], rfl⟩]
    · rw [if_neg e, if_neg (fun e2 => e (by have := e2.1; omega))]
      exact h.2.2.1 b j hb hb2 hj
  · unfold hf_up gup
    rw [if_neg (fun e => by rw [e.1] at hb; omega), if_neg (fun e => by have := e.1; omega)]
    exact h.2.2.2 b j hb
/-- a place of an array is written -/
theorem gQ.as {T : gT} {μ : Nat → Nat → Int} {ν : gN} (h : gQ T μ ν) {a : Nat} {i v : Int} (ht : 20 ≤ (T.2 a).1) (hi : 0 ≤ i) (hp : ∀ k, hl_ptr a k = 0) : gQ T (hf_up μ a i.toNat v) (gup ν a i v) := by
  refine ⟨⟨h.1.1, h.1.2.1, fun b j hb => ?_⟩, h.2.1, fun b j hb hb2 hj => ?_, fun b j hb => ?_⟩
  · show hf_up μ a i.toNat v b j = hl_ptr b j
    unfold hf_up
    rw [if_neg (fun e => hb (by rw [e.1]; exact hp _))]
    exact h.1.2.2 b j hb
  · unfold hf_up gup
    rw [if_neg (fun e => by rw [e.1] at hb2; omega), if_neg (fun e => by have := e.1; omega)]
    exact h.2.2.1 b j hb hb2 hj
  · unfold hf_up gup
    by_cases e : b = a ∧ j = i.toNat
    · rw [if_pos e, if_pos ⟨by rw [e.1], by have := e.2; omega⟩]
    · rw [if_neg e, if_neg (fun e2 => e ⟨by have := e2.1; omega, by have := e2.2; omega⟩)]
      exact h.2.2.2 b j hb
theorem hl_ptr_nil {a : Nat} (h : hl_ptrs.getD a [] = []) (k : Nat) : hl_ptr a k = 0 := by unfold hl_ptr; rw [h]; rfl
theorem hl_ptr_far {a : Nat} (h : 104 < a) (k : Nat) : hl_ptr a k = 0 := by
  apply Classical.byContradiction
  intro hc
  have := (hl_ptr_in hc).2.1
  omega
section
variable {α β : Type}
theorem gr_ret (a : α) : gr (hf_ret a) (gret a) := by
  intro T μ ν h r s e
  cases e
  exact ⟨μ, rfl, h⟩
theorem gr_none : gr hf_none gnone := by
  intro T μ ν h r s e
  cases e
theorem gr_bd {m : hf_M β} {m' : gM β} {F : β → hf_M α} {G : β → gM α} (h1 : gr m m') (h2 : ∀ v, gr (F v) (G v)) : gr (hf_bd m F) (gbd m' G) := by
  intro T μ ν h r s e
  unfold gbd at e
  cases hm : m' (T, ν) with
  | none => rw [hm] at e; cases e
  | some x =>
    obtain ⟨b, T1, ν1⟩ := x
    rw [hm] at e
    obtain ⟨μ1, g1, g2⟩ := h1 T μ ν h b (T1, ν1) hm
    obtain ⟨μ2, k1, k2⟩ := h2 b T1 μ1 ν1 g2 r s e
    exact ⟨μ2, by unfold hf_bd; rw [g1]; exact k1, k2⟩
theorem gr_let {x : Int} {F : Int → hf_M α} {G : Int → gM α} (h : ∀ v, gr (F v) (G v)) : gr (hf_bd (hf_ret x) F) (glet x G) := by
  intro T μ ν hq r s e
  exact h x T μ ν hq r s e
theorem gr_letc {x : Int} {F : Int → hf_M α} {g : gM α} (h : gr (F x) g) : gr (hf_bd (hf_ret x) F) g := h
theorem gr_gfp {tg k : Nat} {F : Int → hf_M α} {g : gM α} (a : Nat) (p : Int) (h1 : 1 ≤ a) (h2 : a ≤ 104) (ht : (hl_lay a).1 = tg) (hk : hl_ptr a k = p) (hp : p ≠ 0) (h : gr (F p) g) : gr (hf_bd (hf_gf tg k (a : Int)) F) g := by
  intro T μ ν hq r s e
  obtain ⟨μ', g1, g2⟩ := h T μ ν hq r s e
  refine ⟨μ', ?_, g2⟩
  unfold hf_bd hf_gf
  rw [if_pos (hq.is h1 h2 ht)]
  show F (μ (a : Int).toNat k) _ = _
  rw [Int.toNat_natCast, show μ a k = hl_ptr a k from hq.1.2.2 a k (by rw [hk]; exact hp), hk]
  exact g1
theorem gr_gf {tg k : Nat} {F : Int → hf_M α} {x : Int} {G : Int → gM α} (a : Nat) (h1 : 1 ≤ a) (h2 : a ≤ 104) (ht : (hl_lay a).1 = tg) (hk : k < 100 ∧ tg < 20) (hx : x = -(100 * (a : Int) + (k : Int))) (h : ∀ v, gr (F v) (G v)) : gr (hf_bd (hf_gf tg k (a : Int)) F) (gget x G) := by
  intro T μ ν hq r s e
  obtain ⟨μ', g1, g2⟩ := h _ T μ ν hq r s e
  refine ⟨μ', ?_, g2⟩
  unfold hf_bd hf_gf
  rw [if_pos (hq.is h1 h2 ht)]
  show F (μ (a : Int).toNat k) _ = _
  rw [Int.toNat_natCast, hq.2.2.1 a k h1 (by rw [hq.lay h1 h2, ht]; exact hk.2) hk.1, ← hx]
  exact g1
theorem gr_gft {F : Int → hf_M α} {g : gM α} (hd : (9 : Int) = ((9 : Nat) : Int)) (h : gr (F 7) g) : gr (hf_bd (hf_gf 9 0 9) F) (gget (-900) (fun v => gck (v = 7) g)) := by
  refine gr_gf 9 (by decide) (by decide) rfl (by decide) rfl (fun v => ?_)
  intro T μ ν hq r s e
  unfold gck at e
  by_cases hv : v = 7
  · rw [if_pos hv] at e
    rw [hv]; exact h T μ ν hq r s e
  · rw [if_neg hv] at e; cases e
theorem gr_pf {tg k : Nat} {v : Int} {F : Unit → hf_M α} {x : Int} {g : gM α} (a : Nat) (h1 : 1 ≤ a) (h2 : a ≤ 104) (ht : (hl_lay a).1 = tg) (hk : k < 100) (ht2 : tg < 20) (hx : x = -(100 * (a : Int) + (k : Int))) (hp : hl_ptr a k = 0) (h : gr (F ()) g) : gr (hf_bd (hf_pf tg k (a : Int) v) F) (gput x v g) := by
  intro T μ ν hq r s e
  obtain ⟨μ', g1, g2⟩ := h T _ _ (hq.pf (v := v) h1 (by rw [hq.lay h1 h2, ht]; exact ht2) hk hx hp) r s e
  refine ⟨μ', ?_, g2⟩
  unfold hf_bd hf_pf
  rw [if_pos (hq.is h1 h2 ht)]
  exact g1
theorem gr_al {tg : Nat} {i : Int} {F : Int → hf_M α} {x : Int} {G : Int → gM α} (a len : Nat) (h1 : 1 ≤ a) (h2 : a ≤ 104) (ht : hl_lay a = (tg, len)) (ht2 : 20 ≤ tg) (hx : x = (a : Int)) (h : ∀ v, gr (F v) (G v)) : gr (hf_bd (hf_al tg (a : Int) i) F) (gal x (len : Int) i G) := by
  intro T μ ν hq r s e
  subst hx
  unfold gal at e
  by_cases hi : 0 ≤ i ∧ i < (len : Int)
  · rw [if_pos hi] at e
    obtain ⟨μ', g1, g2⟩ := h _ T μ ν hq r s e
    refine ⟨μ', ?_, g2⟩
    unfold hf_bd hf_al
    rw [if_pos ⟨hq.is h1 h2 (by rw [ht]), hi.1, by show i < ((T.2 (a : Int).toNat).2 : Int); rw [Int.toNat_natCast, hq.lay h1 h2, ht]; exact hi.2⟩]
    show F (μ (a : Int).toNat i.toNat) _ = _
    rw [Int.toNat_natCast, hq.2.2.2 a _ (by rw [hq.lay h1 h2, ht]; exact ht2), Int.toNat_of_nonneg hi.1]
    exact g1
  · rw [if_neg hi] at e; cases e
theorem gr_as {tg : Nat} {i v : Int} {F : Unit → hf_M α} {x : Int} {g : gM α} (a len : Nat) (h1 : 1 ≤ a) (h2 : a ≤ 104) (ht : hl_lay a = (tg, len)) (ht2 : 20 ≤ tg) (hx : x = (a : Int)) (hp : hl_ptrs.getD a [] = []) (h : gr (F ()) g) : gr (hf_bd (hf_as tg (a : Int) i v) F) (gas x (len : Int) i v g) := by
  intro T μ ν hq r s e
  subst hx
  unfold gas at e
  by_cases hi : 0 ≤ i ∧ i < (len : Int)
  · rw [if_pos hi] at e
    obtain ⟨μ', g1, g2⟩ := h T _ _ (hq.as (v := v) (by rw [hq.lay h1 h2, ht]; exact ht2) hi.1 (hl_ptr_nil hp)) r s e
    refine ⟨μ', ?_, g2⟩
    unfold hf_bd hf_as
    rw [if_pos ⟨hq.is h1 h2 (by rw [ht]), hi.1, by show i < ((T.2 (a : Int).toNat).2 : Int); rw [Int.toNat_natCast, hq.lay h1 h2, ht]; exact hi.2⟩]
    exact g1
  · rw [if_neg hi] at e; cases e
theorem gr_ald {tg : Nat} {o i : Int} {F : Int → hf_M α} {G : Int → gM α} (ht2 : 20 ≤ tg) (h : ∀ v, gr (F v) (G v)) : gr (hf_bd (hf_al tg o i) F) (gald tg o i G) := by
  intro T μ ν hq r s e
  unfold gald at e
  by_cases hi : gis T tg o ∧ 0 ≤ i ∧ i < (T.2 o.toNat).2
  · rw [if_pos hi] at e
    obtain ⟨μ', g1, g2⟩ := h _ T μ ν hq r s e
    refine ⟨μ', ?_, g2⟩
    unfold hf_bd hf_al
    rw [if_pos hi]
    show F (μ o.toNat i.toNat) _ = _
    rw [hq.2.2.2 _ _ (by rw [hi.1.2.2]; exact ht2), Int.toNat_of_nonneg hi.2.1, Int.toNat_of_nonneg (by have := hi.1.1; omega)]
    exact g1
  · rw [if_neg hi] at e; cases e
theorem gr_asd {tg : Nat} {o i v : Int} {F : Unit → hf_M α} {g : gM α} (ht2 : 20 ≤ tg) (h : gr (F ()) g) : gr (hf_bd (hf_as tg o i v) F) (gasd tg o i v g) := by
  intro T μ ν hq r s e
  unfold gasd at e
  by_cases hi : gis T tg o ∧ 104 < o ∧ 0 ≤ i ∧ i < (T.2 o.toNat).2
  · rw [if_pos hi] at e
    have ho : ((o.toNat : Nat) : Int) = o := Int.toNat_of_nonneg (by omega)
    have hq2 := hq.as (a := o.toNat) (v := v) (by rw [hi.1.2.2]; exact ht2) hi.2.2.1 (hl_ptr_far (by omega))
    rw [ho] at hq2
    obtain ⟨μ', g1, g2⟩ := h T _ _ hq2 r s e
    refine ⟨μ', ?_, g2⟩
    unfold hf_bd hf_as
    rw [if_pos ⟨hi.1, hi.2.2⟩]
    exact g1
  · rw [if_neg hi] at e; cases e
theorem gr_an {tg : Nat} {F : Int → hf_M α} {g : gM α} (a len : Nat) (h1 : 1 ≤ a) (h2 : a ≤ 104) (ht : hl_lay a = (tg, len)) (hx : a = a) (h : gr (F (len : Int)) g) : gr (hf_bd (hf_an tg (a : Int)) F) g := by
  intro T μ ν hq r s e
  obtain ⟨μ', g1, g2⟩ := h T μ ν hq r s e
  refine ⟨μ', ?_, g2⟩
  unfold hf_bd hf_an
  rw [if_pos (hq.is h1 h2 (by rw [ht]))]
  show F ((T.2 (a : Int).toNat).2 : Int) _ = _
  rw [Int.toNat_natCast, hq.lay h1 h2, ht]
  exact g1
theorem gr_and {tg : Nat} {o : Int} {F : Int → hf_M α} {G : Int → gM α} (h : ∀ v, gr (F v) (G v)) : gr (hf_bd (hf_an tg o) F) (gand tg o G) := by
  intro T μ ν hq r s e
  unfold gand at e
  by_cases hi : gis T tg o
  · rw [if_pos hi] at e
    obtain ⟨μ', g1, g2⟩ := h _ T μ ν hq r s e
    refine ⟨μ', ?_, g2⟩
    unfold hf_bd hf_an
    rw [if_pos hi]
    exact g1
  · rw [if_neg hi] at e; cases e
theorem gr_ob {tg : Nat} {f : hf_M α} {g : gM α} (a : Nat) (h1 : 1 ≤ a) (h2 : a ≤ 104) (ht : (hl_lay a).1 = tg) (h : gr f g) : gr (hf_ob tg (a : Int) f) g := by
  intro T μ ν hq r s e
  obtain ⟨μ', g1, g2⟩ := h T μ ν hq r s e
  refine ⟨μ', ?_, g2⟩
  unfold hf_ob
  rw [if_pos (hq.is h1 h2 ht)]
  exact g1
theorem gr_obd {tg : Nat} {o : Int} {f : hf_M α} {g : gM α} (h : gr f g) : gr (hf_ob tg o f) (gob tg o g) := by
  intro T μ ν hq r s e
  unfold gob at e
  by_cases hi : gis T tg o
  · rw [if_pos hi] at e
    obtain ⟨μ', g1, g2⟩ := h T μ ν hq r s e
    refine ⟨μ', ?_, g2⟩
    unfold hf_ob
    rw [if_pos hi]
    exact g1
  · rw [if_neg hi] at e; cases e
theorem gr_ck {c : Prop} [Decidable c] {f : hf_M α} {g : gM α} (h : c → gr f g) : gr (hf_ck c f) (gck c g) := by
  intro T μ ν hq r s e
  unfold gck at e
  by_cases hc : c
  · rw [if_pos hc] at e
    obtain ⟨μ', g1, g2⟩ := h hc T μ ν hq r s e
    exact ⟨μ', by unfold hf_ck; rw [if_pos hc]; exact g1, g2⟩
  · rw [if_neg hc] at e; cases e
/-- the same with a test of the flat machine alone -/
theorem gr_gck {c : Prop} [Decidable c] {f : hf_M α} {g : gM α} (h : c → gr f g) : gr f (gck c g) := by
  intro T μ ν hq r s e
  unfold gck at e
  by_cases hc : c
  · rw [if_pos hc] at e
    exact h hc T μ ν hq r s e
  · rw [if_neg hc] at e; cases e
theorem gr_it {c : Prop} [Decidable c] {f1 f2 : hf_M α} {g1 g2 : gM α} (h1 : gr f1 g1) (h2 : gr f2 g2) : gr (hf_it c f1 f2) (git c g1 g2) := by
  intro T μ ν hq r s e
  unfold git at e
  unfold hf_it
  by_cases hc : c
  · rw [if_pos hc] at e
    rw [if_pos hc]; exact h1 T μ ν hq r s e
  · rw [if_neg hc] at e
    rw [if_neg hc]; exact h2 T μ ν hq r s e
theorem gr_cb {a b : Int} {c : Prop} [Decidable c] {f1 f2 : hf_M α} {g1 g2 : gM α} (h1 : gr f1 g1) (h2 : gr f2 g2) : gr (hf_cb a b c f1 f2) (gcb a b c g1 g2) := by
  intro T μ ν hq r s e
  unfold gcb at e
  unfold hf_cb
  by_cases hi : hf_inI a ∧ hf_inI b
  · rw [if_pos hi] at e
    rw [if_pos hi]
    exact gr_it h1 h2 T μ ν hq r s e
  · rw [if_neg hi] at e; cases e
theorem gr_cz {a : Int} {c : Prop} [Decidable c] {f1 f2 : hf_M α} {g1 g2 : gM α} (h1 : gr f1 g1) (h2 : gr f2 g2) : gr (hf_cz a c f1 f2) (gcz a c g1 g2) := by
  intro T μ ν hq r s e
  unfold gcz at e
  unfold hf_cz
  by_cases hi : hf_inI a
  · rw [if_pos hi] at e
    rw [if_pos hi]
    exact gr_it h1 h2 T μ ν hq r s e
  · rw [if_neg hi] at e; cases e
theorem gr_cl {a b : Int} {c : Prop} [Decidable c] {f1 f2 : hf_M α} {g1 g2 : gM α} (h1 : gr f1 g1) (h2 : gr f2 g2) : gr (hf_cl a b c f1 f2) (gcl a b c g1 g2) := by
  intro T μ ν hq r s e
  unfold gcl at e
  unfold hf_cl
  by_cases hi : hf_inL a ∧ hf_inL b
  · rw [if_pos hi] at e
    rw [if_pos hi]
    exact gr_it h1 h2 T μ ν hq r s e
  · rw [if_neg hi] at e; cases e
theorem gr_dv {a b : Int} {F : Int → hf_M α} {G : Int → gM α} (h : ∀ v, gr (F v) (G v)) : gr (hf_bd (hf_dv a b) F) (gdv a b G) := by
  intro T μ ν hq r s e
  unfold gdv at e
  by_cases hi : hf_inI a ∧ hf_inI b ∧ b ≠ 0
  · rw [if_pos hi] at e
    obtain ⟨μ', g1, g2⟩ := h _ T μ ν hq r s e
    exact ⟨μ', by unfold hf_bd hf_dv; rw [if_pos hi]; exact g1, g2⟩
  · rw [if_neg hi] at e; cases e
theorem gr_rm {a b : Int} {F : Int → hf_M α} {G : Int → gM α} (h : ∀ v, gr (F v) (G v)) : gr (hf_bd (hf_rm a b) F) (grm a b G) := by
  intro T μ ν hq r s e
  unfold grm at e
  by_cases hi : hf_inI a ∧ hf_inI b ∧ b ≠ 0
  · rw [if_pos hi] at e
    obtain ⟨μ', g1, g2⟩ := h _ T μ ν hq r s e
    exact ⟨μ', by unfold hf_bd hf_rm; rw [if_pos hi]; exact g1, g2⟩
  · rw [if_neg hi] at e; cases e
theorem gr_dvl {a b : Int} {F : Int → hf_M α} {G : Int → gM α} (h : ∀ v, gr (F v) (G v)) : gr (hf_bd (hf_dvl a b) F) (gdvl a b G) := by
  intro T μ ν hq r s e
  unfold gdvl at e
  by_cases hi : hf_inL a ∧ hf_inL b ∧ b ≠ 0
  · rw [if_pos hi] at e
    obtain ⟨μ', g1, g2⟩ := h _ T μ ν hq r s e
    exact ⟨μ', by unfold hf_bd hf_dvl; rw [if_pos hi]; exact g1, g2⟩
  · rw [if_neg hi] at e; cases e
theorem gr_rml {a b : Int} {F : Int → hf_M α} {G : Int → gM α} (h : ∀ v, gr (F v) (G v)) : gr (hf_bd (hf_rml a b) F) (grml a b G) := by
  intro T μ ν hq r s e
  unfold grml at e
  by_cases hi : hf_inL a ∧ hf_inL b ∧ b ≠ 0
  · rw [if_pos hi] at e
    obtain ⟨μ', g1, g2⟩ := h _ T μ ν hq r s e
    exact ⟨μ', by unfold hf_bd hf_rml; rw [if_pos hi]; exact g1, g2⟩
  · rw [if_neg hi] at e; cases e
theorem gr_sn {F : Int → hf_M α} {G : Int → gM α} (h : ∀ v, gr (F v) (G v)) : gr (hf_bd hf_sn F) (gsn G) := by
  intro T μ ν hq r s e
  obtain ⟨μ', g1, g2⟩ := h _ T μ ν hq r s e
  exact ⟨μ', g1, g2⟩
theorem gr_sg {i : Int} {F : Int → hf_M α} {G : Int → gM α} (h : ∀ v, gr (F v) (G v)) : gr (hf_bd (hf_sg i) F) (gsg i G) := by
  intro T μ ν hq r s e
  unfold gsg at e
  by_cases hi : 0 ≤ i ∧ i < (T.2 0).2
  · rw [if_pos hi] at e
    obtain ⟨μ', g1, g2⟩ := h _ T μ ν hq r s e
    refine ⟨μ', ?_, g2⟩
    unfold hf_bd hf_sg
    rw [if_pos hi]
    show F (μ 0 i.toNat) _ = _
    rw [hq.2.2.2 0 _ (by rw [hq.2.1]; decide), Int.toNat_of_nonneg hi.1]
    exact g1
  · rw [if_neg hi] at e; cases e
theorem gQ.nw {T : gT} {μ : Nat → Nat → Int} {ν : gN} (hq : gQ T μ ν) {tg len : Nat} (ht : 20 ≤ tg) : gQ (gnT T tg len) (fun b j => if b = T.1 + 1 then 0 else μ b j) (gnN T ν) := by
  have h104 : 104 ≤ T.1 := hq.1.1
  refine ⟨⟨Nat.le_succ_of_le h104, fun a h1 h2 => ?_, fun a k hp => ?_⟩, ?_, fun a k h1 h2 hk => ?_, fun a k h1 => ?_⟩
  · show (if a = T.1 + 1 then (tg, len) else T.2 a) = hl_lay a
    rw [if_neg (by omega)]; exact hq.lay h1 h2
  · show (if a = T.1 + 1 then 0 else μ a k) = hl_ptr a k
    have := (hl_ptr_in hp).2.1
    rw [if_neg (by omega)]; exact hq.1.2.2 a k hp
  · show (if 0 = T.1 + 1 then (tg, len) else T.2 0).1 = 20
    rw [if_neg (by omega)]; exact hq.2.1
  · show (if a = T.1 + 1 then 0 else μ a k) = gnN T ν (-(100 * (a : Int) + (k : Int))) 0
    unfold gnN
    have h2' : (if a = T.1 + 1 then (tg, len) else T.2 a).1 < 20 := h2
    by_cases e : a = T.1 + 1
    · rw [if_pos e] at h2'; exact absurd h2' (by show ¬ tg < 20; omega)
    · rw [if_neg e] at h2'
      rw [if_neg e, if_neg (by omega)]; exact hq.2.2.1 a k h1 h2' hk
  · show (if a = T.1 + 1 then 0 else μ a k) = gnN T ν a k
    unfold gnN
    have h1' : 20 ≤ (if a = T.1 + 1 then (tg, len) else T.2 a).1 := h1
    by_cases e : a = T.1 + 1
    · rw [if_pos e, if_pos (by rw [e])]
    · rw [if_neg e] at h1'
      rw [if_neg e, if_neg (by omega)]; exact hq.2.2.2 a k h1'
theorem gr_na {tg : Nat} {n : Int} {F : Int → hf_M α} {G : Int → gM α} (ht : 20 ≤ tg) (h : ∀ v, gr (F v) (G v)) : gr (hf_bd (hf_na tg n) F) (gna tg n G) := by
  intro T μ ν hq r s e
  unfold gna at e
  by_cases hi : 0 ≤ n ∧ T.1 + 1 ≤ hf_cc ∧ gsl T + n.toNat ≤ hf_cs
  · rw [if_pos hi] at e
    obtain ⟨μ', g1, g2⟩ := h _ _ _ _ (hq.nw ht) r s e
    refine ⟨μ', ?_, g2⟩
    unfold hf_bd hf_na
    rw [if_pos hi.1]
    unfold hf_nw
    rw [if_pos (show (T.1, T.2, μ).1 + 1 ≤ hf_cc ∧ hf_sl (T.1, T.2, μ) + n.toNat ≤ hf_cs from hi.2)]
    exact g1
  · rw [if_neg hi] at e; cases e
theorem gr_fx {S : Type} {F : (S → hf_M α) → S → hf_M α} {G : (S → gM α) → S → gM α} (h : ∀ (frec : S → hf_M α) (rec : S → gM α), (∀ s, gr (frec s) (rec s)) → ∀ s, gr (F frec s) (G rec s)) : ∀ (n : Nat) (s : S), gr (hf_fx F n s) (gfx G n s) := by
  intro n
  induction n with
  | zero => intro s T μ ν hq r s e; cases e
  | succ n ih => intro s; exact h _ _ ih s
/-! a plan's rows: the plan is at 18 or 23 -/
theorem gQ.isp {T : gT} {μ : Nat → Nat → Int} {ν : gN} (hq : gQ T μ ν) {o : Int} (hp : o = 18 ∨ o = 23) : hf_is (T.1, T.2, μ) 4 o := by
  rcases hp with rfl | rfl
  · exact hq.is (a := 18) (by decide) (by decide) rfl
  · exact hq.is (a := 23) (by decide) (by decide) rfl
theorem gr_obp {o : Int} {f : hf_M α} {g : gM α} (h : (o = 18 ∨ o = 23) → gr f g) : gr (hf_ob 4 o f) (gck (o = 18 ∨ o = 23) g) := by
  refine gr_gck (fun hp => ?_)
  rcases hp with rfl | rfl
  · exact gr_ob 18 (by decide) (by decide) rfl (h (Or.inl rfl))
  · exact gr_ob 23 (by decide) (by decide) rfl (h (Or.inr rfl))
theorem gr_bdp {o : Int} {m : hf_M β} {m' : gM β} {F : β → hf_M α} {G : β → gM α} (h1 : (o = 18 ∨ o = 23) → gr m m') (h2 : ∀ v, gr (F v) (G v)) : gr (hf_bd (hf_ob 4 o m) F) (gck (o = 18 ∨ o = 23) (gbd m' G)) := by
  refine gr_gck (fun hp => gr_bd ?_ h2)
  rcases hp with rfl | rfl
  · exact gr_ob 18 (by decide) (by decide) rfl (h1 (Or.inl rfl))
  · exact gr_ob 23 (by decide) (by decide) rfl (h1 (Or.inr rfl))
theorem gr_gfpp {o : Int} {k : Nat} {F : Int → hf_M α} {g : gM α} (d : Int) (h0 : 2 ≤ k ∧ k ≤ 5) (hd : d = (k : Int) - 1) (h : (o = 18 ∨ o = 23) → gr (F (o + d)) g) : gr (hf_bd (hf_gf 4 k o) F) (gck (o = 18 ∨ o = 23) g) := by
  refine gr_gck (fun hp => ?_)
  subst hd
  have hk : k = 2 ∨ k = 3 ∨ k = 4 ∨ k = 5 := by omega
  rcases hp with rfl | rfl
  · refine gr_gfp 18 (18 + ((k : Int) - 1)) (by decide) (by decide) rfl ?_ (by omega) (h (Or.inl rfl))
    rcases hk with rfl | rfl | rfl | rfl <;> rfl
  · refine gr_gfp 23 (23 + ((k : Int) - 1)) (by decide) (by decide) rfl ?_ (by omega) (h (Or.inr rfl))
    rcases hk with rfl | rfl | rfl | rfl <;> rfl
theorem gr_gfps {o x : Int} {k : Nat} {F : Int → hf_M α} {G : Int → gM α} (h0 : k < 2) (hx : x = -(100 * o + (k : Int))) (h : (o = 18 ∨ o = 23) → ∀ v, gr (F v) (G v)) : gr (hf_bd (hf_gf 4 k o) F) (gck (o = 18 ∨ o = 23) (gget x G)) := by
  refine gr_gck (fun hp => ?_)
  subst hx
  rcases hp with rfl | rfl
  · exact gr_gf 18 (by decide) (by decide) rfl ⟨by omega, by decide⟩ rfl (h (Or.inl rfl))
  · exact gr_gf 23 (by decide) (by decide) rfl ⟨by omega, by decide⟩ rfl (h (Or.inr rfl))
theorem gr_pfps {o x v : Int} {k : Nat} {F : Unit → hf_M α} {g : gM α} (h0 : k < 2) (hx : x = -(100 * o + (k : Int))) (h : (o = 18 ∨ o = 23) → gr (F ()) g) : gr (hf_bd (hf_pf 4 k o v) F) (gck (o = 18 ∨ o = 23) (gput x v g)) := by
  refine gr_gck (fun hp => ?_)
  subst hx
  have hk : k = 0 ∨ k = 1 := by omega
  rcases hp with rfl | rfl
  · exact gr_pf 18 (by decide) (by decide) rfl (by omega) (by decide) rfl (by rcases hk with rfl | rfl <;> rfl) (h (Or.inl rfl))
  · exact gr_pf 23 (by decide) (by decide) rfl (by omega) (by decide) rfl (by rcases hk with rfl | rfl <;> rfl) (h (Or.inr rfl))
theorem gr_alp {o d i : Int} {len : Nat} {F : Int → hf_M α} {G : Int → gM α} (h1 : 1 ≤ d) (h2 : d ≤ 4) (l1 : hl_lay (18 + d.toNat) = (20, len)) (l2 : hl_lay (23 + d.toNat) = (20, len)) (hp : o = 18 ∨ o = 23) (h : ∀ v, gr (F v) (G v)) : gr (hf_bd (hf_al 20 (o + d) i) F) (gal (o + d) (len : Int) i G) := by
  rcases hp with rfl | rfl
  · have e : (18 : Int) + d = ((18 + d.toNat : Nat) : Int) := by omega
    rw [e]
    exact gr_al (18 + d.toNat) len (by omega) (by omega) l1 (by decide) rfl h
  · have e : (23 : Int) + d = ((23 + d.toNat : Nat) : Int) := by omega
    rw [e]
    exact gr_al (23 + d.toNat) len (by omega) (by omega) l2 (by decide) rfl h
theorem gr_asp {o d i v : Int} {len : Nat} {F : Unit → hf_M α} {g : gM α} (h1 : 1 ≤ d) (h2 : d ≤ 4) (l1 : hl_lay (18 + d.toNat) = (20, len)) (l2 : hl_lay (23 + d.toNat) = (20, len)) (hp : o = 18 ∨ o = 23) (h : gr (F ()) g) : gr (hf_bd (hf_as 20 (o + d) i v) F) (gas (o + d) (len : Int) i v g) := by
  have hd : d = 1 ∨ d = 2 ∨ d = 3 ∨ d = 4 := by omega
  rcases hp with rfl | rfl
  · have e : (18 : Int) + d = ((18 + d.toNat : Nat) : Int) := by omega
    rw [e]
    exact gr_as (18 + d.toNat) len (by omega) (by omega) l1 (by decide) rfl (by rcases hd with rfl | rfl | rfl | rfl <;> rfl) h
  · have e : (23 : Int) + d = ((23 + d.toNat : Nat) : Int) := by omega
    rw [e]
    exact gr_as (23 + d.toNat) len (by omega) (by omega) l2 (by decide) rfl (by rcases hd with rfl | rfl | rfl | rfl <;> rfl) h
end
/-! the four rows by hand: texts, copies, look -/
def g_J0_length (o : Int) : gM Int := fun s => (hf_str o).bind fun i => some (((hf_slen.getD i 0 : Nat) : Int), s)
def g_J0_charAt (o j : Int) : gM Int := fun s => (hf_str o).bind fun i => if hf_inI j ∧ 0 ≤ j ∧ j < (hf_slen.getD i 0 : Nat) then some (hf_sch i j, s) else none
theorem r_J0_length (o : Int) : gr (f_J0_length_8abf5 o) (g_J0_length o) := by
  intro T μ ν hq r s e
  unfold g_J0_length at e
  unfold f_J0_length_8abf5
  cases ho : hf_str o with
  | none => rw [ho] at e; cases e
  | some i => rw [ho] at e; cases e; exact ⟨μ, rfl, hq⟩
theorem r_J0_charAt (o j : Int) : gr (f_J0_charAt_5068e o j) (g_J0_charAt o j) := by
  intro T μ ν hq r s e
  unfold g_J0_charAt at e
  unfold f_J0_charAt_5068e
  cases ho : hf_str o with
  | none => rw [ho] at e; cases e
  | some i =>
    rw [ho] at e
    replace e : (if hf_inI j ∧ 0 ≤ j ∧ j < (hf_slen.getD i 0 : Nat) then some (hf_sch i j, ((T, ν) : gS)) else none) = some (r, s) := e
    by_cases hc : hf_inI j ∧ 0 ≤ j ∧ j < (hf_slen.getD i 0 : Nat)
    · rw [if_pos hc] at e; cases e
      exact ⟨μ, by show (if _ then _ else _) = _; rw [if_pos hc], hq⟩
    · rw [if_neg hc] at e; cases e
/-- a longer copy of bytes -/
def g_J7_copyOf (x n : Int) : gM Int := fun s => if gis s.1 22 x ∧ hf_inI n ∧ ((s.1.2 x.toNat).2 : Int) < n ∧ s.1.1 + 1 ≤ hf_cc ∧ gsl s.1 + n.toNat ≤ hf_cs ∧ (∀ i, i < (s.1.2 x.toNat).2 → -128 ≤ s.2 x (i : Int) ∧ s.2 x (i : Int) ≤ 127) then some (((s.1.1 + 1 : Nat) : Int), (gnT s.1 22 n.toNat, fun b j => if b = ((s.1.1 + 1 : Nat) : Int) then (if 0 ≤ j ∧ j < ((s.1.2 x.toNat).2 : Int) then s.2 x j else 0) else s.2 b j)) else none
theorem r_J7_copyOf (x n : Int) : gr (f_J7_copyOf_9075b x n) (g_J7_copyOf x n) := by
  intro T μ ν hq r s e
  unfold g_J7_copyOf at e
  split at e
  · rename_i hc
    cases e
    obtain ⟨hx, hn, hlt, h1, h2, hb⟩ := hc
    replace hx : gis T 22 x := hx
    replace hlt : ((T.2 x.toNat).2 : Int) < n := hlt
    replace h1 : T.1 + 1 ≤ hf_cc := h1
    replace h2 : gsl T + n.toNat ≤ hf_cs := h2
    have h104 : 104 ≤ T.1 := hq.1.1
    have h0 : 0 ≤ n := by omega
    have hne : x.toNat ≠ T.1 + 1 := by have := hx.2.1; omega
    have hmu : ∀ i : Nat, μ x.toNat i = ν x (i : Int) := fun i => by
      rw [hq.2.2.2 x.toNat i (by rw [hx.2.2]; decide), Int.toNat_of_nonneg (by have := hx.1; omega)]
    have H : hw (f_J7_copyOf_9075b x n) (T.1, T.2, μ) (fun r σ' => r = ((T.1 + 1 : Nat) : Int) ∧ σ' = (T.1 + 1, (gnT T 22 n.toNat).2, fun b j => if b = T.1 + 1 ∧ j < (T.2 x.toNat).2 then μ x.toNat j else (if b = T.1 + 1 then 0 else μ b j))) := by
      unfold f_J7_copyOf_9075b
      refine hw_bd (hw_an hx ?_)
      refine hw_cb hn ⟨by show -2147483648 ≤ ((T.2 x.toNat).2 : Int); omega, by show ((T.2 x.toNat).2 : Int) ≤ 2147483647; have := hn.2; omega⟩ (fun _ => ?_) (fun hne => absurd (show n = ((T.2 x.toNat).2 : Int) from Classical.byContradiction hne) (by omega))
      refine hw_bd (hw_na h0 (hw_nw h1 h2 ?_))
      have hx2 : hf_is (T.1 + 1, (fun a => if a = T.1 + 1 then (22, n.toNat) else T.2 a), (fun b j => if b = T.1 + 1 then 0 else μ b j)) 22 x := ⟨hx.1, Nat.le_succ_of_le hx.2.1, by show (if x.toNat = T.1 + 1 then (22, n.toNat) else T.2 x.toNat).1 = 22; rw [if_neg hne]; exact hx.2.2⟩
      refine hw_bd (hw_an hx2 ?_)
      have el : (if x.toNat = T.1 + 1 then (22, n.toNat) else T.2 x.toNat).2 = (T.2 x.toNat).2 := by rw [if_neg hne]
      show hw (hf_ck (hf_inI ((if x.toNat = T.1 + 1 then (22, n.toNat) else T.2 x.toNat).2 : Int) ∧ hf_inI n) _) _ _
      rw [el]
      refine hw_ck ⟨⟨by omega, by have := hn.2; omega⟩, hn⟩ ?_
      refine hw_bd_ret ?_
      rw [show min ((T.2 x.toNat).2 : Int) n = ((T.2 x.toNat).2 : Int) by omega]
      refine hw_bd ⟨(), _, ?_, hw_ret ⟨rfl, rfl⟩⟩
      unfold hf_cp
      rw [if_pos]
      · simp only [Int.toNat_natCast]
        congr 1
        refine Prod.ext rfl (Prod.ext rfl (Prod.ext rfl ?_))
        funext b j
        show (if b = T.1 + 1 ∧ j < (T.2 x.toNat).2 then (if x.toNat = T.1 + 1 then 0 else μ x.toNat j) else (if b = T.1 + 1 then 0 else μ b j)) = _
        rw [if_neg hne]
      · refine ⟨hx2, ⟨by omega, by show ((T.1 + 1 : Nat) : Int).toNat ≤ T.1 + 1; omega, ?_⟩, ?_, by omega, ?_, ?_, ?_⟩
        · show (if ((T.1 + 1 : Nat) : Int).toNat = T.1 + 1 then (22, n.toNat) else T.2 ((T.1 + 1 : Nat) : Int).toNat).1 = 22
          rw [if_pos (Int.toNat_natCast _)]
        · intro hh; apply hne; rw [hh]; exact Int.toNat_natCast _
        · show ((T.2 x.toNat).2 : Int) ≤ ((if x.toNat = T.1 + 1 then (22, n.toNat) else T.2 x.toNat).2 : Int)
          rw [if_neg hne]; exact Int.le_refl _
        · show ((T.2 x.toNat).2 : Int) ≤ ((if ((T.1 + 1 : Nat) : Int).toNat = T.1 + 1 then (22, n.toNat) else T.2 ((T.1 + 1 : Nat) : Int).toNat).2 : Int)
          rw [if_pos (Int.toNat_natCast _)]
          show ((T.2 x.toNat).2 : Int) ≤ (n.toNat : Int)
          omega
        · intro i hi
          show -128 ≤ (if x.toNat = T.1 + 1 then 0 else μ x.toNat i) ∧ (if x.toNat = T.1 + 1 then 0 else μ x.toNat i) ≤ 127
          rw [if_neg hne, hmu]
          exact hb i (by rw [Int.toNat_natCast] at hi; exact hi)
    obtain ⟨r, σ', g1, rfl, rfl⟩ := H
    refine ⟨_, g1, ?_⟩
    have q1 := hq.nw (tg := 22) (len := n.toNat) (by decide)
    refine ⟨⟨q1.1.1, q1.1.2.1, fun a k hp => ?_⟩, q1.2.1, fun a k ha ht hk => ?_, fun a k ht => ?_⟩
    · have := (hl_ptr_in hp).2.1
      show (if a = T.1 + 1 ∧ k < (T.2 x.toNat).2 then μ x.toNat k else (if a = T.1 + 1 then 0 else μ a k)) = hl_ptr a k
      rw [if_neg (by omega), if_neg (by omega)]
      exact hq.1.2.2 a k hp
    · have h3 := q1.2.2.1 a k ha ht hk
      show (if a = T.1 + 1 ∧ k < (T.2 x.toNat).2 then μ x.toNat k else (if a = T.1 + 1 then 0 else μ a k)) = (if -(100 * (a : Int) + (k : Int)) = ((T.1 + 1 : Nat) : Int) then _ else ν (-(100 * (a : Int) + (k : Int))) 0)
      rw [if_neg (show ¬ (-(100 * (a : Int) + (k : Int)) = ((T.1 + 1 : Nat) : Int)) by omega)]
      by_cases e : a = T.1 + 1
      · exfalso
        have h4 : (if a = T.1 + 1 then (22, n.toNat) else T.2 a).1 < 20 := ht
        rw [if_pos e] at h4
        exact absurd (show (22 : Nat) < 20 from h4) (by decide)
      · rw [if_neg (show ¬ (a = T.1 + 1 ∧ k < (T.2 x.toNat).2) from fun h => e h.1), if_neg e]
        have h4 : (if a = T.1 + 1 then (22, n.toNat) else T.2 a).1 < 20 := ht
        rw [if_neg e] at h4
        exact hq.2.2.1 a k ha h4 hk
    · show (if a = T.1 + 1 ∧ k < (T.2 x.toNat).2 then μ x.toNat k else (if a = T.1 + 1 then 0 else μ a k)) = (if (a : Int) = ((T.1 + 1 : Nat) : Int) then (if 0 ≤ (k : Int) ∧ (k : Int) < ((T.2 x.toNat).2 : Int) then ν x k else 0) else ν a k)
      by_cases e : a = T.1 + 1
      · rw [if_pos (show (a : Int) = ((T.1 + 1 : Nat) : Int) by omega)]
        by_cases e2 : k < (T.2 x.toNat).2
        · rw [if_pos ⟨e, e2⟩, if_pos ⟨by omega, by omega⟩, hmu]
        · rw [if_neg (fun h => e2 h.2), if_pos e, if_neg (fun h => e2 (by omega))]
      · rw [if_neg (fun h => e h.1), if_neg e, if_neg (by omega)]
        have h4 : 20 ≤ (if a = T.1 + 1 then (22, n.toNat) else T.2 a).1 := ht
        rw [if_neg e] at h4
        exact hq.2.2.2 a k h4
  · cases e
/-- look, with its throws -/
def g_L_look1 (a p0 : Int) : gM Int := gal a 3 p0 (fun v => gck (hf_inI v) (gas 104 1 0 v (gret 0)))
def g_L_look (p0 p1 : Int) : gM Int := gck (hf_inI p0 ∧ hf_inI p1) (git (0 ≤ p0 ∧ p0 < 3) (git (p1 = 0) (g_L_look1 3 p0) (git (p1 = 1) (g_L_look1 4 p0) (git (p1 = 2) (g_L_look1 5 p0) (gxc (gret 2))))) (gxc (gret 1)))
theorem r_look_has {T : gT} {μ : Nat → Nat → Int} {ν : gN} (hq : gQ T μ ν) {p0 : Int} (h : hf_inI p0) : hf_ob 8 2 (f_X8_hasKind 2 p0) (T.1, T.2, μ) = some (if 0 ≤ p0 ∧ p0 < 3 then 1 else 0, (T.1, T.2, μ)) := by
  unfold hf_ob
  rw [if_pos (show hf_is (T.1, T.2, μ) 8 2 from hq.is (a := 2) (by decide) (by decide) rfl)]
  unfold f_X8_hasKind hf_cz hf_cb hf_ret
  have h3 : hf_inI 3 := by decide
  by_cases c1 : p0 < 0
  · rw [if_pos h, if_pos c1, if_neg (by omega)]
  · rw [if_pos h, if_neg c1, if_pos ⟨h, h3⟩]
    by_cases c2 : 3 ≤ p0
    · rw [if_pos c2, if_neg (by omega)]
    · rw [if_neg c2, if_pos (by omega)]
theorem r_look_gf {T : gT} {μ : Nat → Nat → Int} {ν : gN} (hq : gQ T μ ν) : hf_gf 11 0 1 (T.1, T.2, μ) = some (2, (T.1, T.2, μ)) := by
  unfold hf_gf
  rw [if_pos (show hf_is (T.1, T.2, μ) 11 1 from hq.is (a := 1) (by decide) (by decide) rfl)]
  show some (μ 1 0, _) = _
  rw [show μ 1 0 = hl_ptr 1 0 from hq.1.2.2 1 0 (by decide)]
  rfl
theorem r_look_n {T : gT} {μ : Nat → Nat → Int} {ν : gN} (hq : gQ T μ ν) {p0 p1 : Int} (h0 : hf_inI p0) (h1 : hf_inI p1) : f_look_n 1 p0 p1 (T.1, T.2, μ) = if 0 ≤ p0 ∧ p0 < 3 then (hf_it (p1 = 0) (f_look_r 1 1 p0) (hf_it (p1 = 1) (f_look_r 2 1 p0) (hf_it (p1 = 2) (f_look_r 3 1 p0) hf_none))) (T.1, T.2, μ) else none := by
  unfold f_look_n hf_bd
  rw [r_look_gf hq]
  show (hf_ob 8 2 (f_X8_hasKind 2 p0) (T.1, T.2, μ)).bind _ = _
  rw [r_look_has hq h0]
  by_cases c : 0 ≤ p0 ∧ p0 < 3
  · rw [if_pos c, if_pos c]
    show hf_cz 1 (¬ (1 : Int) = 0) _ _ _ = _
    unfold hf_cz hf_ck
    rw [if_pos (by decide), if_pos (by decide), if_pos h1]
  · rw [if_neg c, if_neg c]
    show hf_cz 0 (¬ (0 : Int) = 0) _ _ _ = _
    unfold hf_cz
    rw [if_pos (by decide), if_neg (by decide)]; rfl
theorem r_look_x {T : gT} {μ : Nat → Nat → Int} {ν : gN} (hq : gQ T μ ν) {p0 p1 : Int} (h0 : hf_inI p0) (h1 : hf_inI p1) : f_look_x 1 p0 p1 (T.1, T.2, μ) = if 0 ≤ p0 ∧ p0 < 3 then (hf_it (p1 = 0) hf_none (hf_it (p1 = 1) hf_none (hf_it (p1 = 2) hf_none (hf_ret 78)))) (T.1, T.2, μ) else some (11, (T.1, T.2, μ)) := by
  unfold f_look_x hf_bd
  rw [r_look_gf hq]
  show (hf_ob 8 2 (f_X8_hasKind 2 p0) (T.1, T.2, μ)).bind _ = _
  rw [r_look_has hq h0]
  by_cases c : 0 ≤ p0 ∧ p0 < 3
  · rw [if_pos c, if_pos c]
    show hf_cz 1 (¬ (1 : Int) = 0) _ _ _ = _
    unfold hf_cz hf_ck
    rw [if_pos (by decide), if_pos (by decide), if_pos h1]
  · rw [if_neg c, if_neg c]
    show hf_cz 0 (¬ (0 : Int) = 0) _ _ _ = _
    unfold hf_cz
    rw [if_pos (by decide), if_neg (by decide)]; rfl
theorem r_look_r {T : gT} {μ : Nat → Nat → Int} {ν : gN} (hq : gQ T μ ν) (k a : Nat) (hka : hl_ptr 2 k = (a : Int) ∧ 1 ≤ a ∧ a ≤ 104 ∧ hl_lay a = (20, 3)) {p0 : Int} (c : 0 ≤ p0 ∧ p0 < 3) : f_look_r k 1 p0 (T.1, T.2, μ) = some (ν a p0, (T.1, T.2, μ)) := by
  obtain ⟨e1, e2, e3, e4⟩ := hka
  unfold f_look_r hf_bd
  rw [r_look_gf hq]
  show (hf_gf 8 k 2 (T.1, T.2, μ)).bind _ = _
  unfold hf_gf
  rw [if_pos (show hf_is (T.1, T.2, μ) 8 2 from hq.is (a := 2) (by decide) (by decide) rfl)]
  show (hf_al 20 (μ 2 k) p0 (T.1, T.2, μ)).bind _ = _
  rw [show μ 2 k = hl_ptr 2 k from hq.1.2.2 2 k (by rw [e1]; omega), e1]
  unfold hf_al
  rw [if_pos ⟨hq.is e2 e3 (by rw [e4]), c.1, by show p0 < ((T.2 (a : Int).toNat).2 : Int); rw [Int.toNat_natCast, hq.lay e2 e3, e4]; exact c.2⟩]
  show some (μ (a : Int).toNat p0.toNat, _) = _
  rw [Int.toNat_natCast, hq.2.2.2 a _ (by rw [hq.lay e2 e3, e4]; decide), Int.toNat_of_nonneg c.1]
theorem r_look1 {T : gT} {μ : Nat → Nat → Int} {ν : gN} (hq : gQ T μ ν) {p0 v : Int} (a : Nat) (hv : v = ν a p0) {r : Int} {s : gS} (e : g_L_look1 a p0 (T, ν) = some (r, s)) : ∃ μ', hf_ck (hf_inI v) (hf_bd (hf_as 21 104 0 v) (fun _ => hf_ret 0)) (T.1, T.2, μ) = some (r, (s.1.1, s.1.2, μ')) ∧ gQ s.1 μ' s.2 := by
  unfold g_L_look1 gal at e
  split at e
  · replace e : gck (hf_inI (ν a p0)) (gas 104 1 0 (ν a p0) (gret 0)) (T, ν) = some (r, s) := e
    rw [← hv] at e
    have hg : gr (hf_ck (hf_inI v) (hf_bd (hf_as 21 104 0 v) (fun _ => hf_ret 0))) (gck (hf_inI v) (gas 104 1 0 v (gret (0 : Int)))) := gr_ck (fun _ => gr_as 104 1 (by decide) (by decide) rfl (by decide) rfl rfl (gr_ret _))
    exact hg T μ ν hq r s e
  · cases e
theorem gr_xc {T : gT} {μ : Nat → Nat → Int} {ν : gN} (hq : gQ T μ ν) {v r : Int} {s : gS} (e : gxc (gret v) (T, ν) = some (r, s)) : (T.1 + 1 ≤ hf_cc ∧ hf_sl (T.1, T.2, μ) + 6 ≤ hf_cs) ∧ ∃ μ', hf_ret v (hx_σ (T.1, T.2, μ)) = some (r, (s.1.1, s.1.2, μ')) ∧ gQ s.1 μ' s.2 := by
  unfold gxc at e
  split at e
  · rename_i hc
    cases e
    exact ⟨hc, _, rfl, hq.nw (by decide)⟩
  · cases e
theorem r_L_look (p0 p1 : Int) : gr (f_L_look 1 p0 p1 104) (g_L_look p0 p1) := by
  intro T μ ν hq r s e
  unfold g_L_look gck at e
  split at e
  · rename_i hc
    unfold f_L_look hf_lk
    rw [if_pos (show hf_is (T.1, T.2, μ) 11 1 from hq.is (a := 1) (by decide) (by decide) rfl), r_look_n hq hc.1 hc.2, r_look_x hq hc.1 hc.2]
    unfold git at e
    unfold hf_it
    by_cases c : 0 ≤ p0 ∧ p0 < 3
    · rw [if_pos c] at e
      rw [if_pos c, if_pos c]
      by_cases c0 : p1 = 0
      · rw [if_pos c0] at e
        rw [if_pos c0, r_look_r hq 1 3 (by decide) c]
        exact r_look1 hq 3 rfl e
      · rw [if_neg c0] at e
        rw [if_neg c0, if_neg c0]
        by_cases c1 : p1 = 1
        · rw [if_pos c1] at e
          rw [if_pos c1, r_look_r hq 2 4 (by decide) c]
          exact r_look1 hq 4 rfl e
        · rw [if_neg c1] at e
          rw [if_neg c1, if_neg c1]
          by_cases c2 : p1 = 2
          · rw [if_pos c2] at e
            rw [if_pos c2, r_look_r hq 3 5 (by decide) c]
            exact r_look1 hq 5 rfl e
          · rw [if_neg c2] at e
            rw [if_neg c2, if_neg c2]
            obtain ⟨hr, g⟩ := gr_xc hq e
            show ∃ μ', (if (T.1 = T.1 ∧ hf_sl (T.1, T.2, μ) = hf_sl (T.1, T.2, μ) ∧ T.1 + 1 ≤ hf_cc ∧ hf_sl (T.1, T.2, μ) + 6 ≤ hf_cs) then (if (78 : Int) = 11 then hf_ret 1 (hx_σ (T.1, T.2, μ)) else hf_ret 2 (hx_σ (T.1, T.2, μ))) else none) = some (r, (s.1.1, s.1.2, μ')) ∧ gQ s.1 μ' s.2
            rw [if_pos ⟨rfl, rfl, hr⟩, if_neg (by decide)]
            exact g
    · rw [if_neg c] at e
      rw [if_neg c, if_neg c]
      obtain ⟨hr, g⟩ := gr_xc hq e
      show ∃ μ', (if (T.1 = T.1 ∧ hf_sl (T.1, T.2, μ) = hf_sl (T.1, T.2, μ) ∧ T.1 + 1 ≤ hf_cc ∧ hf_sl (T.1, T.2, μ) + 6 ≤ hf_cs) then (if (11 : Int) = 11 then hf_ret 1 (hx_σ (T.1, T.2, μ)) else hf_ret 2 (hx_σ (T.1, T.2, μ))) else none) = some (r, (s.1.1, s.1.2, μ')) ∧ gQ s.1 μ' s.2
      rw [if_pos ⟨rfl, rfl, hr⟩, if_pos rfl]
      exact g
  · cases e
