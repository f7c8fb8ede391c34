/-! PLAN: what is held, counted -/
def np (H : Int → Int) : Nat → Nat
  | 0 => 0
  | h + 1 => np H h + (if H h = 3 then 0 else 1)
def pr (H : Int → Int) : Nat → Nat
  | 0 => 0
  | h + 1 => pr H h + (if H h = 3 then 1 else 0)
def bn (H : Int → Int) : Nat → Nat
  | 0 => 0
  | h + 1 => bn H h + (if H h = 3 ∨ H h = 9 then 0 else 1)
/-- whether a comparison is held above the last bracket -/
def cvr (H : Int → Int) : Nat → Int
  | 0 => 0
  | h + 1 => if H h = 3 then 0 else if bnd (H h) = 4 then 1 else cvr H h
theorem cnt_congr {H H' : Int → Int} : ∀ n : Nat, (∀ i : Nat, i < n → H' i = H i) → np H' n = np H n ∧ pr H' n = pr H n ∧ bn H' n = bn H n ∧ cvr H' n = cvr H n := by
  intro n
  induction n with
  | zero => intro _; exact ⟨rfl, rfl, rfl, rfl⟩
  | succ n ih =>
    intro h
    have h1 := ih (fun i hi => h i (by omega))
    have h2 := h n (by omega)
    refine ⟨?_, ?_, ?_, ?_⟩
    · show np H' n + (if H' n = 3 then 0 else 1) = np H n + (if H n = 3 then 0 else 1); rw [h1.1, h2]
    · show pr H' n + (if H' n = 3 then 1 else 0) = pr H n + (if H n = 3 then 1 else 0); rw [h1.2.1, h2]
    · show bn H' n + (if H' n = 3 ∨ H' n = 9 then 0 else 1) = bn H n + (if H n = 3 ∨ H n = 9 then 0 else 1); rw [h1.2.2.1, h2]
    · show (if H' n = 3 then 0 else if bnd (H' n) = 4 then 1 else cvr H' n) = (if H n = 3 then 0 else if bnd (H n) = 4 then 1 else cvr H n); rw [h1.2.2.2, h2]
theorem np_pr (H : Int → Int) : ∀ n : Nat, np H n + pr H n = n := by
  intro n
  induction n with
  | zero => rfl
  | succ n ih => show np H n + (if H n = 3 then 0 else 1) + (pr H n + (if H n = 3 then 1 else 0)) = n + 1; split <;> omega
theorem pr_mono (H : Int → Int) {i : Nat} : ∀ n : Nat, i ≤ n → pr H i ≤ pr H n := by
  intro n
  induction n with
  | zero => intro h; rw [show i = 0 by omega]; exact Nat.le_refl _
  | succ n ih =>
    intro h
    by_cases e : i = n + 1
    · rw [e]; exact Nat.le_refl _
    · have := ih (by omega)
      show pr H i ≤ pr H n + (if H n = 3 then 1 else 0)
      omega
theorem pr_lt (H : Int → Int) {i n : Nat} (h : i < n) (h3 : H i = 3) : pr H i < pr H n := by
  have h1 : pr H (i + 1) = pr H i + (if H i = 3 then 1 else 0) := rfl
  rw [if_pos h3] at h1
  have := pr_mono H (i := i + 1) n (by omega)
  omega
def ris (a b : Int) : Prop := b = 3 ∨ bnd a < bnd b ∨ (b = 9 ∧ bnd a ≤ 3)
def exI (H C W : Int → Int) (h o s : Nat) (m d : Int) (e : Nat) : Prop := (∀ i : Nat, i < h → hk (H i)) ∧ (∀ i : Nat, i + 1 < h → ris (H i) (H ((i + 1 : Nat) : Int))) ∧ ((o : Int) + np H h = m ∧ m ≤ 64) ∧ (s ≤ o ∧ wf W s (o - s) ∧ (sn W s (o - s)).length = bn H h + e) ∧ (d = pr H h ∧ d ≤ 8) ∧ (∀ i : Nat, i < h → H i = 3 → C (pr H i) = cvr H i)
theorem hk_bnd {k : Int} (h : hk k) : (k = 3 → bnd k = 0) ∧ (k ≠ 3 → 1 ≤ bnd k) ∧ (k = 9 → bnd k = 3) ∧ ((21 ≤ k ∧ k ≤ 26) ↔ bnd k = 4) ∧ bnd k ≤ 6 := by
  unfold hk at h
  unfold bnd
  refine ⟨fun e => ?_, fun e => ?_, fun e => ?_, ⟨fun e => ?_, fun e => ?_⟩, ?_⟩
  · subst e; decide
  · repeat' split
    all_goals omega
  · subst e; decide
  · rw [if_neg (by omega), if_neg (by omega), if_neg (by omega), if_pos e]
  · revert e
    repeat' split
    all_goals omega
  · repeat' split
    all_goals omega
theorem wf_congr {W W' : Int → Int} {s : Int} {k : Nat} (h : wf W s k) (hW : ∀ j : Nat, j < k → W' (s + j) = W (s + j)) : wf W' s k := fun j hj => by
  rw [hW j hj, sn_congr (W := W') (W' := W) j (fun i hi => hW i (by omega))]
  exact h j hj
/-- a word more -/
theorem sn_more {W W' : Int → Int} {s o : Nat} {w : Int} (hs : s ≤ o) (h : wf W s (o - s)) (hW : ∀ j : Nat, j < o → W' j = W j) (hw : W' o = w) (hn : need w ≤ (sn W s (o - s)).length) : wf W' s (o + 1 - s) ∧ sn W' s (o + 1 - s) = (o : Int) :: (sn W s (o - s)).drop (need w) := by
  have hc : ∀ j : Nat, j < o - s → W' ((s : Int) + j) = W ((s : Int) + j) := fun j hj => by
    have := hW (s + j) (by omega)
    rw [show (s : Int) + j = ((s + j : Nat) : Int) by omega]; exact this
  have hsn : sn W' s (o - s) = sn W s (o - s) := sn_congr _ hc
  have he : (s : Int) + ((o - s : Nat) : Int) = o := by omega
  rw [show o + 1 - s = (o - s) + 1 by omega]
  refine ⟨fun j hj => ?_, ?_⟩
  · by_cases e : j = o - s
    · rw [e, he, hw, hsn]; exact hn
    · exact wf_congr h hc j (by omega)
  · show ((s : Int) + ((o - s : Nat) : Int)) :: (sn W' s (o - s)).drop (need (W' ((s : Int) + ((o - s : Nat) : Int)))) = _
    rw [he, hw, hsn]
section
variable {H C W : Int → Int} {h o s : Nat} {m d : Int} {e : Nat}
theorem need_hk {k : Int} (hk1 : hk k) (h3 : k ≠ 3) : need (1000 + k) = if k = 9 then 1 else 2 := by
  unfold hk at hk1
  unfold need
  rw [if_neg (by omega)]
  by_cases c : k = 9
  · rw [if_pos c, if_pos (by omega)]
  · rw [if_neg c, if_neg (by omega)]
theorem eI_pop {W' : Int → Int} (hE : exI H C W (h + 1) o s m d 1) (h3 : H h ≠ 3) (hW : ∀ j : Nat, j < o → W' j = W j) (hw : W' o = 1000 + H h) : exI H C W' h (o + 1) s m d 1 := by
  obtain ⟨h1, h2, h4, h5, h6, h7⟩ := hE
  have hkk := h1 h (by omega)
  have en : np H (h + 1) = np H h + (if H h = 3 then 0 else 1) := rfl
  have ep : pr H (h + 1) = pr H h + (if H h = 3 then 1 else 0) := rfl
  have eb : bn H (h + 1) = bn H h + (if H h = 3 ∨ H h = 9 then 0 else 1) := rfl
  rw [if_neg h3] at en ep
  have hnd := need_hk hkk h3
  have hnd2 : need (1000 + H h) ≤ (sn W s (o - s)).length := by
    rw [h5.2.2, eb, hnd]
    by_cases c : H h = 9
    · rw [if_pos c]; omega
    · rw [if_neg c, if_neg (by omega)]; omega
  have hm := sn_more h5.1 h5.2.1 hW hw hnd2
  refine ⟨fun i hi => h1 i (by omega), fun i hi => h2 i (by omega), ⟨by omega, h4.2⟩, ⟨by omega, hm.1, ?_⟩, ⟨by omega, h6.2⟩, fun i hi => h7 i (by omega)⟩
  rw [hm.2, List.length_cons, List.length_drop, h5.2.2, eb, hnd]
  by_cases c : H h = 9
  · rw [if_pos c, if_pos (by omega)]; omega
  · rw [if_neg c, if_neg (by omega)]; omega
theorem eI_hold {H' : Int → Int} {h : Nat} (hH : ∀ j : Nat, j < h → H' j = H j) (h1 : ∀ i : Nat, i < h → hk (H i)) (h2 : ∀ i : Nat, i + 1 < h → ris (H i) (H ((i + 1 : Nat) : Int))) (hk' : hk (H' h)) (hr : ∀ g : Nat, h = g + 1 → ris (H g) (H' h)) : (∀ i : Nat, i < h + 1 → hk (H' i)) ∧ (∀ i : Nat, i + 1 < h + 1 → ris (H' i) (H' ((i + 1 : Nat) : Int))) := by
  refine ⟨fun i hi => ?_, fun i hi => ?_⟩
  · by_cases c : i = h
    · rw [c]; exact hk'
    · rw [hH i (by omega)]; exact h1 i (by omega)
  · rw [hH i (by omega)]
    by_cases c : i + 1 = h
    · rw [c]; exact hr i c.symm
    · rw [hH (i + 1) (by omega)]; exact h2 i (by omega)
theorem eI_open {H' C' : Int → Int} (hE : exI H C W h o s m d 0) (hd : d < 8) (hH : ∀ j : Nat, j < h → H' j = H j) (hh : H' h = 3) (hC : C d = cvr H h) (hC1 : C' (d + 1) = 0) (hC2 : ∀ j : Int, j ≠ d + 1 → C' j = C j) : exI H' C' W (h + 1) o s m (d + 1) 0 ∧ C' (d + 1) = cvr H' (h + 1) := by
  obtain ⟨h1, h2, h4, h5, h6, h7⟩ := hE
  have hc := cnt_congr h hH
  have en : np H' (h + 1) = np H' h + (if H' h = 3 then 0 else 1) := rfl
  have ep : pr H' (h + 1) = pr H' h + (if H' h = 3 then 1 else 0) := rfl
  have eb : bn H' (h + 1) = bn H' h + (if H' h = 3 ∨ H' h = 9 then 0 else 1) := rfl
  have ec : cvr H' (h + 1) = if H' h = 3 then 0 else if bnd (H' h) = 4 then 1 else cvr H' h := rfl
  rw [if_pos hh] at en ep ec
  rw [if_pos (Or.inl hh)] at eb
  have hx := eI_hold hH h1 h2 (by rw [hh]; exact Or.inl rfl) (fun g _ => Or.inl hh)
  refine ⟨⟨hx.1, hx.2, ⟨by omega, h4.2⟩, ⟨h5.1, h5.2.1, by omega⟩, ⟨by omega, by omega⟩, fun i hi h3 => ?_⟩, by rw [hC1, ec]⟩
  have hci := cnt_congr i (fun j hj => hH j (by omega))
  rw [hci.2.1, hci.2.2.2]
  by_cases c : i = h
  · rw [c, hC2 _ (by omega), ← h6.1]; exact hC
  · rw [hH i (by omega)] at h3
    have := pr_lt H (i := i) (n := h) (by omega) h3
    rw [hC2 _ (by omega)]; exact h7 i (by omega) h3
theorem eI_op {H' C' : Int → Int} {k : Int} {e : Nat} (hE : exI H C W h o s m d e) (he : e = if k = 9 then 0 else 1) (hm : m < 64) (hH : ∀ j : Nat, j < h → H' j = H j) (hh : H' h = k) (hk1 : hk k) (h3 : k ≠ 3) (hr : ∀ g : Nat, h = g + 1 → ris (H g) k) (hC2 : ∀ j : Int, j ≠ d → C' j = C j) : exI H' C' W (h + 1) o s (m + 1) d 0 := by
  obtain ⟨h1, h2, h4, h5, h6, h7⟩ := hE
  have hc := cnt_congr h hH
  have en : np H' (h + 1) = np H' h + (if H' h = 3 then 0 else 1) := rfl
  have ep : pr H' (h + 1) = pr H' h + (if H' h = 3 then 1 else 0) := rfl
  have eb : bn H' (h + 1) = bn H' h + (if H' h = 3 ∨ H' h = 9 then 0 else 1) := rfl
  rw [hh, if_neg h3] at en ep
  rw [hh] at eb
  have hx := eI_hold hH h1 h2 (by rw [hh]; exact hk1) (fun g hg => by rw [hh]; exact hr g hg)
  refine ⟨hx.1, hx.2, ⟨by omega, by omega⟩, ⟨h5.1, h5.2.1, ?_⟩, ⟨by omega, by omega⟩, fun i hi h3' => ?_⟩
  · rw [h5.2.2, eb, he, hc.2.2.1]
    by_cases c : k = 9
    · rw [if_pos c, if_pos (Or.inr c)]
    · rw [if_neg c, if_neg (by omega)]
  · by_cases c : i = h
    · rw [c, hh] at h3'; exact absurd h3' h3
    · have hci := cnt_congr i (fun j hj => hH j (by omega))
      rw [hci.2.1, hci.2.2.2]
      rw [hH i (by omega)] at h3'
      have := pr_lt H (i := i) (n := h) (by omega) h3'
      rw [hC2 _ (by omega)]; exact h7 i (by omega) h3'
theorem eI_close (hE : exI H C W (h + 1) o s m d 1) (h3 : H h = 3) : exI H C W h o s m (d - 1) 1 ∧ C (d - 1) = cvr H h := by
  obtain ⟨h1, h2, h4, h5, h6, h7⟩ := hE
  have en : np H (h + 1) = np H h + (if H h = 3 then 0 else 1) := rfl
  have ep : pr H (h + 1) = pr H h + (if H h = 3 then 1 else 0) := rfl
  have eb : bn H (h + 1) = bn H h + (if H h = 3 ∨ H h = 9 then 0 else 1) := rfl
  rw [if_pos h3] at en ep
  rw [if_pos (Or.inl h3)] at eb
  refine ⟨⟨fun i hi => h1 i (by omega), fun i hi => h2 i (by omega), ⟨by omega, h4.2⟩, ⟨h5.1, h5.2.1, by omega⟩, ⟨by omega, by omega⟩, fun i hi => h7 i (by omega)⟩, ?_⟩
  have := h7 h (by omega) h3
  rw [show d - 1 = (pr H h : Int) by omega]; exact this
theorem eI_leaf {W' : Int → Int} {w : Int} (hE : exI H C W h o s m d 0) (hm : m < 64) (hW : ∀ j : Nat, j < o → W' j = W j) (hw : W' o = w) (hn : need w = 0) : exI H C W' h (o + 1) s (m + 1) d 1 := by
  obtain ⟨h1, h2, h4, h5, h6, h7⟩ := hE
  have hx := sn_more h5.1 h5.2.1 hW hw (by rw [hn]; omega)
  refine ⟨h1, h2, ⟨by omega, by omega⟩, ⟨by omega, hx.1, ?_⟩, h6, h7⟩
  rw [hx.2, hn, List.length_cons, List.length_drop, h5.2.2]; omega
theorem eI_start (hm : (o : Int) ≤ 64) : exI H C W 0 o o o 0 0 := by
  refine ⟨fun i hi => by omega, fun i hi => by omega, ⟨?_, hm⟩, ⟨Nat.le_refl _, ?_, ?_⟩, ⟨rfl, by omega⟩, fun i hi => by omega⟩
  · show (o : Int) + ((0 : Nat) : Int) = o; omega
  · rw [Nat.sub_self]; intro j hj; omega
  · rw [Nat.sub_self]; rfl
/-- with a low top no comparison is held -/
theorem cv_low : ∀ h : Nat, (∀ i : Nat, i < h → hk (H i)) → (∀ i : Nat, i + 1 < h → ris (H i) (H ((i + 1 : Nat) : Int))) → (∀ g : Nat, h = g + 1 → bnd (H g) ≤ 3) → cvr H h = 0 := by
  intro h
  induction h with
  | zero => intro _ _ _; rfl
  | succ h ih =>
    intro h1 h2 h3
    have hb := h3 h rfl
    show (if H h = 3 then 0 else if bnd (H h) = 4 then 1 else cvr H h) = 0
    by_cases c : H h = 3
    · rw [if_pos c]
    · rw [if_neg c, if_neg (by omega)]
      refine ih (fun i hi => h1 i (by omega)) (fun i hi => h2 i (by omega)) (fun g hg => ?_)
      subst hg
      have := h2 g (by omega)
      unfold ris at this
      omega
theorem cv_high {h : Nat} (hb : 5 ≤ bnd (H h)) (h3 : H h ≠ 3) : cvr H (h + 1) = cvr H h := by
  show (if H h = 3 then 0 else if bnd (H h) = 4 then 1 else cvr H h) = cvr H h
  rw [if_neg h3, if_neg (by omega)]
/-- the top tells whether a comparison is held, once what binds more is gone -/
theorem cv_top (h1 : ∀ i : Nat, i < h + 1 → hk (H i)) (h2 : ∀ i : Nat, i + 1 < h + 1 → ris (H i) (H ((i + 1 : Nat) : Int))) (hb : bnd (H h) < 5) : cvr H (h + 1) = 1 ↔ bnd (H h) = 4 := by
  have hkk := hk_bnd (h1 h (by omega))
  by_cases c : bnd (H h) ≤ 3
  · rw [cv_low (h + 1) h1 h2 (fun g hg => by rw [show g = h by omega]; exact c)]
    constructor <;> intro g <;> omega
  · have e4 : bnd (H h) = 4 := by omega
    have e3 : H h ≠ 3 := fun e => by have := hkk.1 e; omega
    constructor
    · intro _; exact e4
    · intro _; show (if H h = 3 then 0 else if bnd (H h) = 4 then 1 else cvr H h) = 1; rw [if_neg e3, if_pos e4]
theorem cv_01 (H : Int → Int) : ∀ h : Nat, cvr H h = 0 ∨ cvr H h = 1 := by
  intro h
  induction h with
  | zero => exact Or.inl rfl
  | succ h ih =>
    show (if H h = 3 then 0 else if bnd (H h) = 4 then 1 else cvr H h) = 0 ∨ (if H h = 3 then 0 else if bnd (H h) = 4 then 1 else cvr H h) = 1
    split
    · exact Or.inl rfl
    · split
      · exact Or.inr rfl
      · exact ih
end
