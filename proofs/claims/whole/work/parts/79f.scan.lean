/-! PLAN: the scanner, as functions -/
def run (P : Int → Bool) : Nat → Int → Int
  | 0, p => p
  | f + 1, p => if P p = true then run P f (p + 1) else p
/-- the first place from p on where P does not hold, or n -/
def rn (P : Int → Bool) (n p : Int) : Int := run P (n - p).toNat p
theorem rn_end {P : Int → Bool} {n p : Int} (h : n ≤ p) : rn P n p = p := by unfold rn; rw [show (n - p).toNat = 0 by omega]; rfl
theorem rn_yes {P : Int → Bool} {n p : Int} (h : p < n) (hp : P p = true) : rn P n p = rn P n (p + 1) := by
  unfold rn
  rw [show (n - p).toNat = (n - (p + 1)).toNat + 1 by omega]
  show (if P p = true then run P (n - (p + 1)).toNat (p + 1) else p) = _
  rw [if_pos hp]
theorem rn_no {P : Int → Bool} {n p : Int} (hp : ¬ P p = true) : rn P n p = p := by
  unfold rn
  cases (n - p).toNat with
  | zero => rfl
  | succ f => show (if P p = true then run P f (p + 1) else p) = p; rw [if_neg hp]
theorem run_in (P : Int → Bool) : ∀ (f : Nat) (p : Int), p ≤ run P f p ∧ run P f p ≤ p + f := by
  intro f
  induction f with
  | zero => intro p; exact ⟨Int.le_refl _, by show p ≤ p + ((0 : Nat) : Int); omega⟩
  | succ f ih =>
    intro p
    have := ih (p + 1)
    show p ≤ (if P p = true then run P f (p + 1) else p) ∧ (if P p = true then run P f (p + 1) else p) ≤ p + ((f + 1 : Nat) : Int)
    split <;> omega
theorem rn_in {P : Int → Bool} {n p : Int} (h : p ≤ n) : p ≤ rn P n p ∧ rn P n p ≤ n := by
  have := run_in P (n - p).toNat p
  unfold rn
  omega
def blk (b : Int → Int) (q : Int) : Bool := decide (b q = 10 ∨ b q = 32)
def dgt (b : Int → Int) (q : Int) : Bool := decide (48 ≤ b q ∧ b q ≤ 57)
def ltr (b : Int → Int) (q : Int) : Bool := decide (97 ≤ b q ∧ b q ≤ 122)
/-- the number of k digits, at most 1000 -/
def nv (b : Int → Int) (s : Int) : Nat → Int
  | 0 => 0
  | k + 1 => min 1000 (nv b s k * 10 + b (s + k) - 48)
def nr (b : Int → Int) (s : Int) : Nat → Int
  | 0 => 0
  | k + 1 => if nr b s k ≤ 999 then 10 * nr b s k + b (s + k) - 48 else nr b s k
def wme (b : Int → Int) (s : Int) (i : Nat) : Nat → Bool
  | 0 => true
  | j + 1 => wme b s i j && decide (b (s + j) = hf_sch i j)
/-- the word i stands at s, len signs long -/
def wm (b : Int → Int) (s len : Int) (i : Nat) : Bool := decide (len = (hf_slen.getD i 0 : Nat)) && wme b s i (hf_slen.getD i 0)
/-- the last of the first n words that stands there -/
def lw (b : Int → Int) (s len : Int) : Nat → Int
  | 0 => -1
  | i + 1 => if wm b s len i = true then i else lw b s len i
def wkd (b : Int → Int) (s len : Int) : Int := if lw b s len 15 = -1 then 1 else 6 + lw b s len 15
def sgo (c : Int) : Int := if c = 40 then 3 else if c = 41 then 4 else if c = 42 then 29 else if c = 43 then 27 else if c = 45 then 28 else if c = 47 then 30 else if c = 59 then 5 else if c = 60 then 21 else if c = 61 then 23 else if c = 62 then 26 else 1
def sgk (c x : Int) : Int := if c = 60 then (if x = 61 then 22 else if x = 62 then 24 else 21) else if c = 62 then (if x = 61 then 25 else 26) else sgo c
def sgl (c x : Int) : Int := if (c = 60 ∧ (x = 61 ∨ x = 62)) ∨ (c = 62 ∧ x = 61) then 2 else 1
/-- kind, number, start, next place -/
def sc (b : Int → Int) (n p : Int) : Int × Int × Int × Int :=
  if n ≤ rn (blk b) n p then (0, 0, rn (blk b) n p, rn (blk b) n p)
  else if dgt b (rn (blk b) n p) = true then (2, nv b (rn (blk b) n p) (rn (dgt b) n (rn (blk b) n p) - rn (blk b) n p).toNat, rn (blk b) n p, rn (dgt b) n (rn (blk b) n p))
  else if ltr b (rn (blk b) n p) = true then (wkd b (rn (blk b) n p) (rn (ltr b) n (rn (blk b) n p) - rn (blk b) n p), 0, rn (blk b) n p, rn (ltr b) n (rn (blk b) n p))
  else (sgk (b (rn (blk b) n p)) (if n ≤ rn (blk b) n p + 1 then 0 else b (rn (blk b) n p + 1)), 0, rn (blk b) n p, rn (blk b) n p + sgl (b (rn (blk b) n p)) (if n ≤ rn (blk b) n p + 1 then 0 else b (rn (blk b) n p + 1)))
/-- the class's scanner stands at p in n bytes -/
def scI (ν : gN) (b : Int → Int) (n p : Int) : Prop := ν 7 = b ∧ ν (-900) 0 = 7 ∧ ν (-901) 0 = n ∧ ν (-902) 0 = p ∧ (0 ≤ p ∧ p ≤ n) ∧ n ≤ 400 ∧ ∀ i : Int, 0 ≤ i → i < 400 → -2147483648 ≤ b i ∧ b i ≤ 2147483647
section
variable {T : gT} {ν : gN} {b : Int → Int} {n p : Int}
theorem d_X9_isDigitAt (h : scI ν b n p) {x : Int} (hx : 0 ≤ x ∧ x ≤ n) : gd (g_X9_isDigitAt x) T ν (if x < n ∧ dgt b x = true then 1 else 0) := by
  obtain ⟨h7, h9, h1, h2, h3, h4, h5⟩ := h
  unfold g_X9_isDigitAt
  refine gd_get ?_
  rw [h1]
  refine gd_cb ⟨⟨by omega, by omega⟩, ⟨by omega, by omega⟩⟩ (fun c => by rw [if_neg (by omega)]; exact gd_ret) (fun c => gd_get (gd_ck h9 (gd_al ⟨by omega, by omega⟩ ?_)))
  rw [h7]
  have hb := h5 x hx.1 (by omega)
  unfold dgt
  refine gd_cb ⟨⟨by omega, by omega⟩, ⟨by omega, by omega⟩⟩ (fun c2 => by rw [if_neg (fun g => by have := of_decide_eq_true g.2; omega)]; exact gd_ret) (fun c2 => gd_get (gd_ck h9 (gd_al ⟨by omega, by omega⟩ ?_)))
  rw [h7]
  exact gd_cb ⟨⟨by omega, by omega⟩, ⟨by omega, by omega⟩⟩ (fun c3 => by rw [if_neg (fun g => by have := of_decide_eq_true g.2; omega)]; exact gd_ret) (fun c3 => by rw [if_pos ⟨by omega, decide_eq_true (by omega)⟩]; exact gd_ret)
theorem d_X9_isLetterAt (h : scI ν b n p) {x : Int} (hx : 0 ≤ x ∧ x ≤ n) : gd (g_X9_isLetterAt x) T ν (if x < n ∧ ltr b x = true then 1 else 0) := by
  obtain ⟨h7, h9, h1, h2, h3, h4, h5⟩ := h
  unfold g_X9_isLetterAt
  refine gd_get ?_
  rw [h1]
  refine gd_cb ⟨⟨by omega, by omega⟩, ⟨by omega, by omega⟩⟩ (fun c => by rw [if_neg (by omega)]; exact gd_ret) (fun c => gd_get (gd_ck h9 (gd_al ⟨by omega, by omega⟩ ?_)))
  rw [h7]
  have hb := h5 x hx.1 (by omega)
  unfold ltr
  refine gd_cb ⟨⟨by omega, by omega⟩, ⟨by omega, by omega⟩⟩ (fun c2 => by rw [if_neg (fun g => by have := of_decide_eq_true g.2; omega)]; exact gd_ret) (fun c2 => gd_get (gd_ck h9 (gd_al ⟨by omega, by omega⟩ ?_)))
  rw [h7]
  exact gd_cb ⟨⟨by omega, by omega⟩, ⟨by omega, by omega⟩⟩ (fun c3 => by rw [if_neg (fun g => by have := of_decide_eq_true g.2; omega)]; exact gd_ret) (fun c3 => by rw [if_pos ⟨by omega, decide_eq_true (by omega)⟩]; exact gd_ret)
theorem scI.mv (h : scI ν b n p) {τ : gN} (hf : gfr [-902, -903, -904, -905] ν τ) {p' : Int} (hp : τ (-902) 0 = p') (hp' : 0 ≤ p' ∧ p' ≤ n) : scI τ b n p' := by
  obtain ⟨h7, h9, h1, h2, h3, h4, h5⟩ := h
  exact ⟨by rw [hf 7 (by decide)]; exact h7, by rw [hf _ (by decide)]; exact h9, by rw [hf _ (by decide)]; exact h1, hp, hp', h4, h5⟩
theorem nv_in (b : Int → Int) (s : Int) (k : Nat) (h : ∀ j : Nat, j < k → 48 ≤ b (s + j)) : 0 ≤ nv b s k ∧ nv b s k ≤ 1000 := by
  induction k with
  | zero => exact ⟨Int.le_refl _, by show (0 : Int) ≤ 1000; omega⟩
  | succ k ih =>
    have h1 := ih (fun j hj => h j (by omega))
    have h2 := h k (by omega)
    show 0 ≤ min 1000 (nv b s k * 10 + b (s + k) - 48) ∧ min 1000 (nv b s k * 10 + b (s + k) - 48) ≤ 1000
    omega
theorem s_X9_readNumber (h : scI ν b n p) (h05 : ν (-905) 0 = 0) : gv g_X9_readNumber T ν (fun _ ν' => gfr [-902, -903, -905] ν ν' ∧ ν' (-903) 0 = 2 ∧ ν' (-902) 0 = rn (dgt b) n p ∧ ν' (-905) 0 = nv b p (rn (dgt b) n p - p).toNat) := by
  unfold g_X9_readNumber g_X9_readNumber_5
  refine gv_put ?_
  refine gv_fx (fun (_ : Unit) τ => ∃ k : Nat, scI τ b n (p + k) ∧ gfr [-902, -903, -905] ν τ ∧ τ (-903) 0 = 2 ∧ τ (-905) 0 = nv b p k ∧ rn (dgt b) n p = rn (dgt b) n (p + k) ∧ ∀ j : Nat, j < k → 48 ≤ b (p + j)) (fun _ τ => (n - τ (-902) 0).toNat) ⟨0, h.mv ((gfr.refl _ _).up (by decide)) (by rw [gup_ne (by decide), h.2.2.2.1]; omega) (by have := h.2.2.2.2.1; omega), (gfr.refl _ _).up (by decide), gup_at _ _ _ _, by rw [gup_ne (by decide)]; exact h05, by rw [show p + ((0 : Nat) : Int) = p by omega], fun j hj => by omega⟩ (by have := h.2.2.2.2.1; have := h.2.2.2.2.2.1; rw [gup_ne (by decide), h.2.2.2.1]; omega) ?_
  intro rec _ τ hI hrec
  obtain ⟨k, hS, hf, e3, e5, er, hdg⟩ := hI
  obtain ⟨h7, h9, h1, h2, h3, h4, h5⟩ := id hS
  have hn := nv_in b p k hdg
  unfold gB_X9_readNumber_5
  refine gv_get ?_
  rw [h2]
  refine gv_tz (k1 := gret 0) (k2 := gret 0) (d_X9_isDigitAt hS h3) (fun c => gv_e1 ?_) (fun c => gv_e0 (gv_ret ?_))
  · have hb := of_decide_eq_true c.2
    refine gv_get (gv_get (gv_ck h9 (gv_get (gv_al (by omega) ?_))))
    rw [e5, h2, h7]
    refine gv_ck (by refine ⟨by decide, ?_, ?_⟩ <;> omega) (gv_let (gv_put (gv_get (gv_put (hrec _ _ ⟨k + 1, hS.mv (((gfr.refl _ _).up (by decide)).up (by decide)) ?_ (by omega), (hf.up (by decide)).up (by decide), ?_, ?_, ?_, fun j hj => ?_⟩ ?_)))))
    · rw [gup_at, gup_ne (by decide), h2]; omega
    · rw [gup_ne (by decide), gup_ne (by decide)]; exact e3
    · rw [gup_ne (by decide), gup_at]; rfl
    · rw [er, rn_yes c.1 c.2, show p + (k : Int) + 1 = p + ((k + 1 : Nat) : Int) by omega]
    · by_cases e : j = k
      · rw [e]; exact hb.1
      · exact hdg j (by omega)
    · rw [gup_at, gup_ne (by decide), h2]; omega
  · have ern : rn (dgt b) n p = p + k := by
      rw [er]
      by_cases g : p + (k : Int) < n
      · exact rn_no (fun hh => c ⟨g, hh⟩)
      · exact rn_end (by omega)
    refine ⟨hf, e3, by rw [ern]; exact h2, ?_⟩
    rw [ern, show (p + (k : Int) - p).toNat = k by omega]; exact e5
end
