/-! THE STATE AFTER THE CONSTRUCTORS -/
def hz_pre : hf_M (Int × Int × Int) := hf_bd (hf_nw 11 15) (fun v0 => hf_bd (hf_ob 11 v0 (f_X11_init v0)) (fun _ => hf_bd (hf_nw 12 69) (fun v8 => hf_bd (hf_ob 12 v8 (f_X12_init v8)) (fun _ => hf_bd (hf_na 21 1) (fun v17 => hf_ret (v0, v8, v17))))))
theorem hf_bd_assoc {α β γ : Type} (m : hf_M α) (f : α → hf_M β) (g : β → hf_M γ) : hf_bd (hf_bd m f) g = hf_bd m (fun x => hf_bd (f x) g) := by
  funext σ
  unfold hf_bd
  cases m σ <;> rfl
theorem hf_bd_ret {α β : Type} (a : α) (g : α → hf_M β) : hf_bd (hf_ret a) g = g a := by
  funext σ
  unfold hf_bd hf_ret
  exact Option.bind_some _ _
theorem hz_law : f_L_law = hf_bd hz_pre (fun v => f_L_law_23 v.1 v.2.1 v.2.2 0) := by
  unfold hz_pre f_L_law
  simp only [hf_bd_assoc, hf_bd_ret]
/-- a state by its data: n cells, S slots, the layout Ls, the numbers D (the last written first), the script's row -/
def hz_look : List (Nat × Nat × Int) → Nat → Nat → Int
  | [], _, _ => 0
  | x :: D, a, k => if a = x.1 ∧ k = x.2.1 then x.2.2 else hz_look D a k
def hz (n S : Nat) (Ls : List (Nat × Nat)) (D : List (Nat × Nat × Int)) (ℓ : Nat × Nat) (ρ : Nat → Int) (σ : hf_S) : Prop :=
  σ.1 = n ∧ hf_sl σ = S ∧ (∀ a, 1 ≤ a → a ≤ n → σ.2.1 a = Ls.getD a (0, 0)) ∧ (∀ a, 1 ≤ a → a ≤ n → ∀ k, σ.2.2 a k = hz_look D a k) ∧ σ.2.1 0 = ℓ ∧ σ.2.2 0 = ρ
section HZ
variable {α : Type} {n S : Nat} {Ls : List (Nat × Nat)} {D : List (Nat × Nat × Int)} {ℓ : Nat × Nat} {ρ : Nat → Int} {σ : hf_S} {Q : α → hf_S → Prop}
theorem hz.is (h : hz n S Ls D ℓ ρ σ) {tg : Nat} {o : Int} (h1 : 1 ≤ o) (h2 : o.toNat ≤ n) (h3 : (Ls.getD o.toNat (0, 0)).1 = tg) : hf_is σ tg o := ⟨h1, by rw [h.1]; exact h2, by rw [h.2.2.1 _ (by omega) h2]; exact h3⟩
theorem hz_pf {tg k : Nat} {o v : Int} {f : Unit → hf_M α} (h : hz n S Ls D ℓ ρ σ) (h1 : 1 ≤ o) (h2 : o.toNat ≤ n) (h3 : (Ls.getD o.toNat (0, 0)).1 = tg) (k1 : ∀ τ, hz n S Ls ((o.toNat, k, v) :: D) ℓ ρ τ → hw (f ()) τ Q) : hw (hf_bd (hf_pf tg k o v) f) σ Q := by
  refine hw_bd (hw_pf (h.is h1 h2 h3) (k1 _ ⟨h.1, h.2.1, h.2.2.1, fun a ha hn j => ?_, h.2.2.2.2.1, ?_⟩))
  · show hf_up σ.2.2 o.toNat k v a j = if a = o.toNat ∧ j = k then v else hz_look D a j
    unfold hf_up
    rw [h.2.2.2.1 a ha hn]
  · show hf_up σ.2.2 o.toNat k v 0 = ρ
    rw [hw_up_ne (by omega)]; exact h.2.2.2.2.2
theorem hz_as {tg : Nat} {o i v : Int} {f : Unit → hf_M α} (h : hz n S Ls D ℓ ρ σ) (h1 : 1 ≤ o) (h2 : o.toNat ≤ n) (h3 : (Ls.getD o.toNat (0, 0)).1 = tg) (h4 : 0 ≤ i) (h5 : i < (Ls.getD o.toNat (0, 0)).2) (k1 : ∀ τ, hz n S Ls ((o.toNat, i.toNat, v) :: D) ℓ ρ τ → hw (f ()) τ Q) : hw (hf_bd (hf_as tg o i v) f) σ Q := by
  refine hw_bd (hw_as (h.is h1 h2 h3) h4 (by rw [h.2.2.1 _ (by omega) h2]; exact h5) (k1 _ ⟨h.1, h.2.1, h.2.2.1, fun a ha hn j => ?_, h.2.2.2.2.1, ?_⟩))
  · show hf_up σ.2.2 o.toNat i.toNat v a j = if a = o.toNat ∧ j = i.toNat then v else hz_look D a j
    unfold hf_up
    rw [h.2.2.2.1 a ha hn]
  · show hf_up σ.2.2 o.toNat i.toNat v 0 = ρ
    rw [hw_up_ne (by omega)]; exact h.2.2.2.2.2
theorem hz_sumc {f g : Nat → Nat} : ∀ n, (∀ a, 1 ≤ a → a ≤ n → f a = g a) → hf_sum f n = hf_sum g n := by
  intro n
  induction n with
  | zero => intro _; rfl
  | succ n ih =>
    intro h
    show hf_sum f n + f (n + 1) = hf_sum g n + g (n + 1)
    rw [ih (fun a h1 h2 => h a h1 (by omega)), h (n + 1) (by omega) (by omega)]
theorem hz_nw {tg len : Nat} {f : Int → hf_M α} (h : hz n S Ls D ℓ ρ σ) (h1 : n + 1 ≤ hf_cc) (h2 : S + len ≤ hf_cs) (h3 : Ls.length = n + 1) (h4 : D.all (fun x => x.1 ≤ n) = true) (k1 : ∀ τ, hz (n + 1) (S + len) (Ls ++ [(tg, len)]) D ℓ ρ τ → hw (f ((n + 1 : Nat) : Int)) τ Q) : hw (hf_bd (hf_nw tg len) f) σ Q := by
  have hD : ∀ (D : List (Nat × Nat × Int)) k, D.all (fun x => x.1 ≤ n) = true → hz_look D (n + 1) k = 0 := by
    intro D k hD
    induction D with
    | nil => rfl
    | cons x D ih =>
      simp only [List.all_cons, Bool.and_eq_true, decide_eq_true_eq] at hD
      unfold hz_look
      rw [if_neg (fun hh => by omega), ih hD.2]
  obtain ⟨g1, g2, g3, g4, g5, g6⟩ := h
  refine hw_bd (hw_nw (by rw [g1]; exact h1) (by rw [g2]; exact h2) ?_)
  rw [g1]
  refine k1 _ ⟨rfl, ?_, fun a ha hn => ?_, fun a ha hn k => ?_, ?_, ?_⟩
  · show hf_sum (fun a => (if a = n + 1 then (tg, len) else σ.2.1 a).2) n + (if n + 1 = n + 1 then (tg, len) else σ.2.1 (n + 1)).2 = S + len
    rw [if_pos rfl, hz_sumc (g := fun a => (σ.2.1 a).2) n (fun a _ h => by rw [if_neg (by omega)])]
    have g2' : hf_sum (fun a => (σ.2.1 a).2) n = S := by rw [← g2]; show _ = hf_sum (fun a => (σ.2.1 a).2) σ.1; rw [g1]
    rw [g2']
  · show (if a = n + 1 then (tg, len) else σ.2.1 a) = (Ls ++ [(tg, len)]).getD a (0, 0)
    by_cases e : a = n + 1
    · rw [if_pos e, e, ← h3]; simp
    · rw [if_neg e, g3 a ha (by omega)]; unfold List.getD; rw [List.getElem?_append_left (by omega)]
  · show (if a = n + 1 then 0 else σ.2.2 a k) = hz_look D a k
    by_cases e : a = n + 1
    · rw [if_pos e, e, hD D k h4]
    · rw [if_neg e, g4 a ha (by omega)]
  · show (if 0 = n + 1 then (tg, len) else σ.2.1 0) = ℓ
    rw [if_neg (by omega)]; exact g5
  · show (fun j => if 0 = n + 1 then 0 else σ.2.2 0 j) = ρ
    rw [← g6]; funext j; rw [if_neg (by omega)]
theorem hz_na {tg : Nat} {ln : Int} {f : Int → hf_M α} (h0 : 0 ≤ ln) (h : hw (hf_bd (hf_nw tg ln.toNat) f) σ Q) : hw (hf_bd (hf_na tg ln) f) σ Q := by
  obtain ⟨r, τ, h1, h2⟩ := h
  refine ⟨r, τ, ?_, h2⟩
  rw [← h1]
  unfold hf_bd hf_na
  rw [if_pos h0]
end HZ
