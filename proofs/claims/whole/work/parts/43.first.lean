/-! THE STATE AFTER THE CONSTRUCTORS -/
def hz_pre : hf_M (Int × Int × Int) := hf_bd (hf_nw 11 15) (fun v0 => hf_bd (hf_ob 11 v0 (f_X11_init v0)) (fun _ => hf_bd (hf_nw 12 69) (fun v8 => hf_bd (hf_ob 12 v8 (f_X12_init v8)) (fun _ => hf_bd (hf_na 21 1) (fun v17 => hf_ret (v0, v8, v17))))))
theorem hf_bd_assoc {α β γ : Type} (m : hf_M α) (f : α → hf_M β) (g : β → hf_M γ) : hf_bd (hf_bd m f) g = hf_bd m (fun x => hf_bd (f x) g) := by
  funext σ
  unfold hf_bd
  cases m σ <;> rfl
theorem hf_bd_ret {α β : Type} (a : α) (g : α → hf_M β) : hf_bd (hf_ret a) g = g a := by
  funext σ
  unfold hf_bd hf_ret
  exact Option.bind_some _ _
theorem hz_law : f_L_law = hf_bd hz_pre (fun v => f_L_law_23 v.1 v.2.1 v.2.2 0) := by
  unfold hz_pre f_L_law
  simp only [hf_bd_assoc, hf_bd_ret]
/-- a state by its data: n cells, S slots, the numbers D (the last written first), the script's row -/
def hz_look : List (Nat × Nat × Int) → Nat → Nat → Int
  | [], _, _ => 0
  | x :: D, a, k => if a = x.1 ∧ k = x.2.1 then x.2.2 else hz_look D a k
def hz (n S : Nat) (D : List (Nat × Nat × Int)) (ℓ : Nat × Nat) (ρ : Nat → Int) (σ : hf_S) : Prop :=
  σ.1 = n ∧ hf_sl σ = S ∧ (∀ a, 1 ≤ a → a ≤ n → σ.2.1 a = hl_lay a) ∧ (∀ a, 1 ≤ a → a ≤ n → ∀ k, σ.2.2 a k = hz_look D a k) ∧ σ.2.1 0 = ℓ ∧ σ.2.2 0 = ρ ∧ ∀ x ∈ D, x.1 ≤ n
def hz_fill (a : Nat) (v : Int) : Nat → List (Nat × Nat × Int) → List (Nat × Nat × Int)
  | 0, D => D
  | j + 1, D => (a, j, v) :: hz_fill a v j D
theorem hz_sumc {f g : Nat → Nat} : ∀ n, (∀ a, 1 ≤ a → a ≤ n → f a = g a) → hf_sum f n = hf_sum g n := by
  intro n
  induction n with
  | zero => intro _; rfl
  | succ n ih =>
    intro h
    show hf_sum f n + f (n + 1) = hf_sum g n + g (n + 1)
    rw [ih (fun a h1 h2 => h a h1 (by omega)), h (n + 1) (by omega) (by omega)]
theorem hz_look0 {n : Nat} : ∀ (D : List (Nat × Nat × Int)) k, (∀ x ∈ D, x.1 ≤ n) → hz_look D (n + 1) k = 0 := by
  intro D k hD
  induction D with
  | nil => rfl
  | cons x D ih =>
    have h1 := hD x List.mem_cons_self
    unfold hz_look
    rw [if_neg (fun hh => by omega), ih (fun y hy => hD y (List.mem_cons_of_mem _ hy))]
section HZ
variable {α : Type} {n S : Nat} {D : List (Nat × Nat × Int)} {ℓ : Nat × Nat} {ρ : Nat → Int} {σ : hf_S} {Q : α → hf_S → Prop}
theorem hz.is (h : hz n S D ℓ ρ σ) {tg : Nat} {o : Int} (h1 : 1 ≤ o) (h2 : o.toNat ≤ n) (h3 : (hl_lay o.toNat).1 = tg) : hf_is σ tg o := ⟨h1, by rw [h.1]; exact h2, by rw [h.2.2.1 _ (by omega) h2]; exact h3⟩
theorem hz.up {τ : hf_S} {a k : Nat} {v : Int} (h : hz n S D ℓ ρ σ) (h1 : 1 ≤ a) (h2 : a ≤ n) (hτ : τ = (σ.1, σ.2.1, hf_up σ.2.2 a k v)) : hz n S ((a, k, v) :: D) ℓ ρ τ := by
  subst hτ
  obtain ⟨g1, g2, g3, g4, g5, g6, g7⟩ := h
  refine ⟨g1, g2, g3, fun b hb hn j => ?_, g5, ?_, fun x hx => ?_⟩
  · show hf_up σ.2.2 a k v b j = if b = a ∧ j = k then v else hz_look D b j
    unfold hf_up
    rw [g4 b hb hn]
  · show hf_up σ.2.2 a k v 0 = ρ
    rw [hw_up_ne (by omega)]; exact g6
  · rcases List.mem_cons.mp hx with rfl | hx
    · exact h2
    · exact g7 x hx
theorem hz_gf {tg k : Nat} {o : Int} {f : Int → hf_M α} (a : Nat) (v : Int) (h : hz n S D ℓ ρ σ) (ha : o.toNat = a) (h1 : 1 ≤ o) (h2 : a ≤ n) (h3 : (hl_lay a).1 = tg) (hv : hz_look D a k = v) (k1 : hw (f v) σ Q) : hw (hf_bd (hf_gf tg k o) f) σ Q := by
  subst ha
  refine hw_bd (hw_gf (h.is h1 h2 h3) ?_)
  rw [h.2.2.2.1 _ (by omega) h2, hv]
  exact k1
theorem hz_pf {tg k : Nat} {o v : Int} {f : Unit → hf_M α} (a : Nat) (h : hz n S D ℓ ρ σ) (ha : o.toNat = a) (h1 : 1 ≤ o) (h2 : a ≤ n) (h3 : (hl_lay a).1 = tg) (k1 : ∀ τ, hz n S ((a, k, v) :: D) ℓ ρ τ → hw (f ()) τ Q) : hw (hf_bd (hf_pf tg k o v) f) σ Q := by
  subst ha
  exact hw_bd (hw_pf (h.is h1 h2 h3) (k1 _ (h.up (by omega) h2 rfl)))
theorem hz_as {tg : Nat} {o i v : Int} {f : Unit → hf_M α} (a j : Nat) (h : hz n S D ℓ ρ σ) (ha : o.toNat = a) (hj : i.toNat = j) (h1 : 1 ≤ o) (h2 : a ≤ n) (h3 : (hl_lay a).1 = tg) (h4 : 0 ≤ i) (h5 : i < (hl_lay a).2) (k1 : ∀ τ, hz n S ((a, j, v) :: D) ℓ ρ τ → hw (f ()) τ Q) : hw (hf_bd (hf_as tg o i v) f) σ Q := by
  subst ha hj
  exact hw_bd (hw_as (h.is h1 h2 h3) h4 (by rw [h.2.2.1 _ (by omega) h2]; exact h5) (k1 _ (h.up (by omega) h2 rfl)))
theorem hz_nw {tg len : Nat} {f : Int → hf_M α} (v : Int) (n' S' : Nat) (h : hz n S D ℓ ρ σ) (hv : v = ((n + 1 : Nat) : Int)) (hn : n' = n + 1) (hS : S' = S + len) (h1 : n' ≤ hf_cc) (h2 : S' ≤ hf_cs) (h3 : hl_lay n' = (tg, len)) (k1 : ∀ τ, hz n' S' D ℓ ρ τ → hw (f v) τ Q) : hw (hf_bd (hf_nw tg len) f) σ Q := by
  subst hv hn hS
  obtain ⟨g1, g2, g3, g4, g5, g6, g7⟩ := h
  refine hw_bd (hw_nw (by rw [g1]; exact h1) (by rw [g2]; exact h2) ?_)
  rw [g1]
  refine k1 _ ⟨rfl, ?_, fun a ha hn => ?_, fun a ha hn k => ?_, ?_, ?_, fun x hx => Nat.le_succ_of_le (g7 x hx)⟩
  · show hf_sum (fun a => (if a = n + 1 then (tg, len) else σ.2.1 a).2) n + (if n + 1 = n + 1 then (tg, len) else σ.2.1 (n + 1)).2 = S + len
    rw [if_pos rfl, hz_sumc (g := fun a => (σ.2.1 a).2) n (fun a _ h => by rw [if_neg (by omega)])]
    have g2' : hf_sum (fun a => (σ.2.1 a).2) n = S := by rw [← g2]; show _ = hf_sum (fun a => (σ.2.1 a).2) σ.1; rw [g1]
    rw [g2']
  · show (if a = n + 1 then (tg, len) else σ.2.1 a) = hl_lay a
    by_cases e : a = n + 1
    · rw [if_pos e, e, h3]
    · rw [if_neg e, g3 a ha (by omega)]
  · show (if a = n + 1 then 0 else σ.2.2 a k) = hz_look D a k
    by_cases e : a = n + 1
    · rw [if_pos e, e, hz_look0 D k g7]
    · rw [if_neg e, g4 a ha (by omega)]
  · show (if 0 = n + 1 then (tg, len) else σ.2.1 0) = ℓ
    rw [if_neg (by omega)]; exact g5
  · show (fun j => if 0 = n + 1 then 0 else σ.2.2 0 j) = ρ
    rw [← g6]; funext j; rw [if_neg (by omega)]
theorem hz_na {tg : Nat} {ln : Int} {f : Int → hf_M α} (h0 : 0 ≤ ln) (h : hw (hf_bd (hf_nw tg ln.toNat) f) σ Q) : hw (hf_bd (hf_na tg ln) f) σ Q := by
  obtain ⟨r, τ, h1, h2⟩ := h
  refine ⟨r, τ, ?_, h2⟩
  rw [← h1]
  unfold hf_bd hf_na
  rw [if_pos h0]
theorem z_fill {a len : Nat} {v o : Int} (h : hz n S D ℓ ρ σ) (ha : o.toNat = a) (h1 : 1 ≤ o) (h2 : a ≤ n) (h3 : hl_lay a = (20, len)) (hlen : len ≤ 1000) : hw (f_J7_fill_53178 o v) σ (fun _ τ => hz n S (hz_fill a v len D) ℓ ρ τ) := by
  subst ha
  unfold f_J7_fill_53178 f_J7_fill_53178_5
  refine hw_bd (hw_an (h.is h1 h2 (by rw [h3])) ?_)
  rw [h.2.2.1 _ (by omega) h2, h3]
  refine hw_fx (fun (s : Int) τ => ∃ j : Nat, j ≤ len ∧ s = j ∧ hz n S (hz_fill o.toNat v j D) ℓ ρ τ) (fun s _ => len - s.toNat) ?_ hf_N 0 σ ⟨0, Nat.zero_le _, rfl, h⟩ (by unfold hf_N; show len - 0 < 100000; omega)
  intro rec s τ hI hrec
  obtain ⟨j, hj, rfl, hz1⟩ := hI
  unfold B_J7_fill_53178_5
  refine hw_cb ⟨by omega, by omega⟩ ⟨by show (-2147483648 : Int) ≤ (len : Int); omega, by show (len : Int) ≤ 2147483647; omega⟩ (fun hc => ?_) (fun hc => ?_)
  · have e : j = len := by have : (len : Int) ≤ (j : Int) := hc; omega
    subst e
    exact hw_ret hz1
  · have hc' : ¬ (len : Int) ≤ (j : Int) := hc
    refine hz_as o.toNat j hz1 rfl (by omega) h1 h2 (by rw [h3]) (by omega) (by rw [h3]; show (j : Int) < (len : Int); omega) (fun τ' h' => ?_)
    refine hw_bd_ret (hrec _ _ ⟨j + 1, by omega, by omega, h'⟩ ?_)
    show len - ((j : Int) + 1).toNat < len - (j : Int).toNat
    omega
end HZ
