/-! PLAN: the reader as a function of rows. Rows: 0 mode, 1 met, 2 written, 3 held, 4 depth, 5 not fits, 6 in a condition, 7 lines, 8 words, 9 held kinds, 10 compared, 11 deed, 12 number from, 13 number to, 14 where the expression began -/
def wrt (S : gN) (w : Int) : gN := gup (gup S 8 (S 2 0) w) 2 0 (S 2 0 + 1)
def pop1 (S : gN) : gN := wrt (gup S 3 0 (S 3 0 - 1)) (1000 + S 9 (S 3 0 - 1))
def rlf (x : Int) : Nat → gN → gN
  | 0, S => S
  | f + 1, S => if 0 < S 3 0 ∧ x ≤ bnd (S 9 (S 3 0 - 1)) then rlf x f (pop1 S) else S
def rel (S : gN) (x : Int) : gN := rlf x (S 3 0).toNat S
def stE (S : gN) : gN := gup (gup (gup (gup (gup (gup S 3 0 0) 4 0 0) 10 0 0) 5 0 1) 0 0 2) 14 0 (S 2 0)
def stD (S : gN) (k : Int) : gN := if k = 7 then gup (gup (gup S 6 0 0) 12 (S 7 0) (S 2 0)) 0 0 1 else stE (gup (gup (gup S 6 0 0) 12 (S 7 0) (S 2 0)) 11 (S 7 0) 3)
def hld (S : gN) (k : Int) : gN := gup (gup S 9 (S 3 0) k) 3 0 (S 3 0 + 1)
def opn (S : gN) : gN := hld (gup (gup (gup S 4 0 (S 4 0 + 1)) 10 (S 4 0 + 1) 0) 5 0 1) 3
def op2 (S : gN) (k d : Int) : gN := gup (if 21 ≤ k ∧ k ≤ 26 then gup (gup S 5 0 0) 10 d 1 else if k = 9 ∨ k = 10 ∨ k = 11 then gup (gup S 5 0 1) 10 d 0 else gup S 5 0 0) 0 0 2
def op1 (S : gN) (k : Int) : gN := if k = 9 then gup S 1 0 (S 1 0 + 1) else rel (gup S 1 0 (S 1 0 + 1)) (bnd k)
def opr (S : gN) (k : Int) : gN := op2 (hld (op1 S k) k) k (S 4 0)
def opd (S : gN) (k v : Int) : gN := gup (wrt (gup S 1 0 (S 1 0 + 1)) (if k = 2 then v else 1000 + k)) 0 0 3
def cls (S : gN) : gN := gup (gup (rel S 1) 3 0 (rel S 1 3 0 - 1)) 4 0 (S 4 0 - 1)
def eol (S : gN) : gN := gup (gup (gup (rel S 1) 13 (S 7 0) (rel S 1 2 0)) 7 0 (S 7 0 + 1)) 0 0 0
/-- the fault that a token is -/
def fc (S : gN) (k v : Int) : Int :=
  if S 0 0 = 0 then (if k = 0 then 0 else if k = 6 ∨ k = 7 ∨ k = 8 then (if S 7 0 < 12 then 0 else 2) else 1)
  else if S 0 0 = 1 then (if k = 2 then (if v < 3 then 0 else 2) else 1)
  else if S 0 0 = 2 then (if k = 3 then (if S 4 0 < 8 then 0 else 2) else if k = 9 then (if S 5 0 = 0 then 1 else if S 1 0 < 64 then 0 else 2) else if k = 2 ∨ (12 ≤ k ∧ k ≤ 20) then (if S 1 0 < 64 ∧ v < 1000 then 0 else 2) else 1)
  else (if k = 4 then (if S 4 0 = 0 then 1 else 0) else if (21 ≤ k ∧ k ≤ 26) ∧ ¬ S 10 (S 4 0) = 0 then 1 else if k = 10 ∨ k = 11 ∨ (21 ≤ k ∧ k ≤ 30) then (if S 1 0 < 64 then 0 else 2) else if 0 < S 4 0 then 1 else if ¬ S 6 0 = 0 then (if k = 7 ∨ k = 8 then 0 else 1) else if k = 5 then 0 else 1)
/-- what a token without a fault does -/
def nx (S : gN) (k v : Int) : gN :=
  if S 0 0 = 0 then (if k = 0 then S else if k = 6 then stE (gup S 6 0 1) else stD S k)
  else if S 0 0 = 1 then stE (gup S 11 (S 7 0) v)
  else if S 0 0 = 2 then (if k = 3 then opn S else if k = 9 then opr S 9 else opd S k v)
  else (if k = 4 then cls S else if k = 10 ∨ k = 11 ∨ (21 ≤ k ∧ k ≤ 30) then opr S k else if ¬ S 6 0 = 0 then stD (rel S 1) k else eol S)
def rdl (b : Int → Int) (n : Int) : Nat → Int → gN → Int × Int × gN
  | 0, _, S => (0, -1, S)
  | f + 1, p, S => if ¬ fc S (sc b n p).1 (sc b n p).2.1 = 0 then (fc S (sc b n p).1 (sc b n p).2.1, (sc b n p).2.2.1, S) else if (sc b n p).1 = 0 then (0, -1, nx S (sc b n p).1 (sc b n p).2.1) else rdl b n f (sc b n p).2.2.2 (nx S (sc b n p).1 (sc b n p).2.1)
/-- from p on, in the state S, the reading comes to R -/
def RD (b : Int → Int) (n p : Int) (S : gN) (R : Int × Int × gN) : Prop := ∃ f : Nat, n - p < f ∧ rdl b n f p S = R
theorem sgk_in (c x : Int) : 1 ≤ sgk c x ∧ sgk c x ≤ 30 ∧ (sgk c x = 1 ∨ 3 ≤ sgk c x) ∧ ¬ (6 ≤ sgk c x ∧ sgk c x ≤ 20) := by
  unfold sgk sgo
  repeat' split
  all_goals omega
theorem lwi (b : Int → Int) (s len : Int) : ∀ n : Nat, -1 ≤ lw b s len n ∧ lw b s len n < n := by
  intro n
  induction n with
  | zero => exact ⟨by show (-1 : Int) ≤ -1; omega, by show (-1 : Int) < 0; omega⟩
  | succ n ih => show -1 ≤ (if wm b s len n = true then (n : Int) else lw b s len n) ∧ (if wm b s len n = true then (n : Int) else lw b s len n) < ((n + 1 : Nat) : Int); split <;> omega
theorem rn_lt {P : Int → Bool} {n p : Int} (h : p < n) (hp : P p = true) : p < rn P n p := by
  rw [rn_yes h hp]
  have := rn_in (P := P) (n := n) (p := p + 1) (by omega)
  omega
theorem rn_all {P : Int → Bool} {n : Int} : ∀ (f : Nat) (p : Int), (n - p).toNat = f → ∀ q : Int, p ≤ q → q < rn P n p → P q = true := by
  intro f
  induction f with
  | zero => intro p hf q h1 h2; rw [rn_end (by omega)] at h2; omega
  | succ f ih =>
    intro p hf q h1 h2
    by_cases c : P p = true
    · by_cases e : q = p
      · rw [e]; exact c
      · rw [rn_yes (by omega) c] at h2
        exact ih (p + 1) (by omega) q (by omega) h2
    · rw [rn_no c] at h2; omega
theorem sc_in {b : Int → Int} {n p : Int} (h : 0 ≤ p ∧ p ≤ n) : (0 ≤ (sc b n p).1 ∧ (sc b n p).1 ≤ 30) ∧ (0 ≤ (sc b n p).2.1 ∧ (sc b n p).2.1 ≤ 1000) ∧ ((sc b n p).1 = 2 ∨ (sc b n p).2.1 = 0) ∧ (p ≤ (sc b n p).2.2.1 ∧ (sc b n p).2.2.1 ≤ n) ∧ (p ≤ (sc b n p).2.2.2 ∧ (sc b n p).2.2.2 ≤ n) ∧ ((sc b n p).1 = 0 ∨ p < (sc b n p).2.2.2) := by
  have h1 := rn_in (P := blk b) (n := n) (p := p) h.2
  unfold sc
  generalize rn (blk b) n p = s at h1 ⊢
  by_cases c1 : n ≤ s
  · rw [if_pos c1]; refine ⟨?_, ?_, ?_, ?_, ?_, ?_⟩ <;> dsimp only <;> first | omega | exact Or.inl rfl | exact Or.inr rfl
  rw [if_neg c1]
  by_cases c2 : dgt b s = true
  · rw [if_pos c2]
    have h2 := rn_lt (P := dgt b) (n := n) (p := s) (by omega) c2
    have h3 := rn_in (P := dgt b) (n := n) (p := s) (by omega)
    have h4 := nv_in b s (rn (dgt b) n s - s).toNat (fun j hj => (of_decide_eq_true (rn_all (P := dgt b) (n := n) _ s rfl (s + j) (by omega) (by omega))).1)
    refine ⟨?_, ?_, ?_, ?_, ?_, ?_⟩ <;> dsimp only <;> first | omega | exact Or.inl rfl | exact Or.inr rfl
  rw [if_neg c2]
  by_cases c3 : ltr b s = true
  · rw [if_pos c3]
    have h2 := rn_lt (P := ltr b) (n := n) (p := s) (by omega) c3
    have h3 := rn_in (P := ltr b) (n := n) (p := s) (by omega)
    have h4 := lwi b s (rn (ltr b) n s - s) 15
    have h5 : 1 ≤ wkd b s (rn (ltr b) n s - s) ∧ wkd b s (rn (ltr b) n s - s) ≤ 20 ∧ wkd b s (rn (ltr b) n s - s) ≠ 2 := by unfold wkd; split <;> omega
    refine ⟨?_, ?_, ?_, ?_, ?_, ?_⟩ <;> dsimp only <;> first | omega | exact Or.inl rfl | exact Or.inr rfl
  rw [if_neg c3]
  have h4 := sgk_in (b s) (if n ≤ s + 1 then 0 else b (s + 1))
  have h5 : 1 ≤ sgl (b s) (if n ≤ s + 1 then 0 else b (s + 1)) ∧ s + sgl (b s) (if n ≤ s + 1 then 0 else b (s + 1)) ≤ n := by
    by_cases c4 : n ≤ s + 1
    · rw [if_pos c4]; unfold sgl; rw [if_neg (by omega)]; omega
    · have := sgl_in (b s) (if n ≤ s + 1 then 0 else b (s + 1)); omega
  refine ⟨?_, ?_, ?_, ?_, ?_, ?_⟩ <;> dsimp only <;> first | omega | exact Or.inl rfl | exact Or.inr rfl
section
variable {b : Int → Int} {n p : Int} {S : gN} {R : Int × Int × gN}
theorem RD.fault (h : RD b n p S R) (hp : p ≤ n) (hf : ¬ fc S (sc b n p).1 (sc b n p).2.1 = 0) : R = (fc S (sc b n p).1 (sc b n p).2.1, (sc b n p).2.2.1, S) := by
  obtain ⟨f, h1, h2⟩ := h
  rw [← h2]
  obtain ⟨g, rfl⟩ : ∃ g, f = g + 1 := ⟨f - 1, by omega⟩
  unfold rdl; rw [if_pos hf]
theorem RD.ends (h : RD b n p S R) (hp : p ≤ n) (hf : fc S (sc b n p).1 (sc b n p).2.1 = 0) (hk : (sc b n p).1 = 0) : R = (0, -1, nx S (sc b n p).1 (sc b n p).2.1) := by
  obtain ⟨f, h1, h2⟩ := h
  rw [← h2]
  obtain ⟨g, rfl⟩ : ∃ g, f = g + 1 := ⟨f - 1, by omega⟩
  unfold rdl; rw [if_neg (fun c => c hf), if_pos hk]
theorem RD.step (h : RD b n p S R) (hp : 0 ≤ p ∧ p ≤ n) (hf : fc S (sc b n p).1 (sc b n p).2.1 = 0) (hk : ¬ (sc b n p).1 = 0) : RD b n (sc b n p).2.2.2 (nx S (sc b n p).1 (sc b n p).2.1) R := by
  obtain ⟨f, h1, h2⟩ := h
  have hi := sc_in (b := b) hp
  obtain ⟨g, rfl⟩ : ∃ g, f = g + 1 := ⟨f - 1, by omega⟩
  refine ⟨g, by omega, ?_⟩
  rw [← h2]
  conv => rhs; unfold rdl
  rw [if_neg (fun c => c hf), if_neg hk]
theorem rel_pop {x : Int} (h1 : 0 < S 3 0) (h2 : x ≤ bnd (S 9 (S 3 0 - 1))) : rel S x = rel (pop1 S) x := by
  have e : (pop1 S) 3 0 = S 3 0 - 1 := by unfold pop1 wrt; rw [gup_ne (by decide), gup_ne (by decide), gup_at]
  unfold rel
  rw [e]
  obtain ⟨g, hg⟩ : ∃ g, (S 3 0).toNat = g + 1 := ⟨(S 3 0).toNat - 1, by omega⟩
  rw [hg, show (S 3 0 - 1).toNat = g by omega]
  show (if 0 < S 3 0 ∧ x ≤ bnd (S 9 (S 3 0 - 1)) then rlf x g (pop1 S) else S) = _
  rw [if_pos ⟨h1, h2⟩]
theorem rel_stop {x : Int} (h : ¬ (0 < S 3 0 ∧ x ≤ bnd (S 9 (S 3 0 - 1)))) : rel S x = S := by
  unfold rel
  cases (S 3 0).toNat with
  | zero => rfl
  | succ g => show (if 0 < S 3 0 ∧ x ≤ bnd (S 9 (S 3 0 - 1)) then rlf x g (pop1 S) else S) = S; rw [if_neg h]
/-- what each step keeps, all keep; and then nothing is left to be let go -/
theorem rel_ind {x : Int} (P : gN → Prop) (hs : ∀ S : gN, P S → 0 < S 3 0 → x ≤ bnd (S 9 (S 3 0 - 1)) → P (pop1 S)) : ∀ (f : Nat) (S : gN), (S 3 0).toNat = f → P S → P (rel S x) ∧ ¬ (0 < rel S x 3 0 ∧ x ≤ bnd (rel S x 9 (rel S x 3 0 - 1))) := by
  intro f
  induction f with
  | zero => intro S hf h; rw [rel_stop (by omega)]; exact ⟨h, by omega⟩
  | succ f ih =>
    intro S hf h
    by_cases c : 0 < S 3 0 ∧ x ≤ bnd (S 9 (S 3 0 - 1))
    · rw [rel_pop c.1 c.2]
      refine ih _ ?_ (hs S h c.1 c.2)
      unfold pop1 wrt; rw [gup_ne (by decide), gup_ne (by decide), gup_at]; omega
    · rw [rel_stop c]; exact ⟨h, c⟩
end
