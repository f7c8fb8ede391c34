/-! FIELDS, ARRAYS, NEW CELLS -/
theorem hf_sum_le (f : Nat → Nat) : ∀ (n a : Nat), 1 ≤ a → a ≤ n → f a ≤ hf_sum f n := by
  intro n
  induction n with
  | zero => intro a h1 h2; omega
  | succ n ih =>
    intro a h1 h2
    simp only [hf_sum]
    by_cases h : a = n + 1
    · subst h; omega
    · have := ih a h1 (by omega); omega
theorem hf_sum_congr {f g : Nat → Nat} : ∀ (n : Nat), (∀ a, 1 ≤ a → a ≤ n → f a = g a) → hf_sum f n = hf_sum g n := by
  intro n
  induction n with
  | zero => intro _; rfl
  | succ n ih => intro h; simp only [hf_sum]; rw [ih (fun a h1 h2 => h a h1 (by omega)), h (n + 1) (by omega) (Nat.le_refl _)]
theorem hf_P.get {G : hf_E} {σ : hf_S} {H : Heap} {tg : Nat} {o : Int} (hP : hf_P G σ H) (hi : hf_is σ tg o) : ∃ (a : Nat) (cell : Cell), o.toNat = a + 1 ∧ a < σ.1 ∧ hf_v G 2 o = .ref (G.1.size + a) ∧ H[G.1.size + a]? = some cell ∧ hf_cell G (σ.2.1 (a + 1)) (σ.2.2 (a + 1)) cell ∧ (σ.2.1 (a + 1)).1 = tg := by
  obtain ⟨h1, h2, h3⟩ := hi
  obtain ⟨a, ha⟩ : ∃ a, o.toNat = a + 1 := ⟨o.toNat - 1, by omega⟩
  obtain ⟨cell, q1, q2⟩ := hP.2.2.1 a (by omega)
  refine ⟨a, cell, ha, by omega, ?_, q1, q2, by rw [← ha]; exact h3⟩
  unfold hf_v
  simp only
  rw [if_neg (by omega), if_pos (by omega), ha]
  rfl
theorem hf_P.len {G : hf_E} {σ : hf_S} {H : Heap} {a : Nat} (hP : hf_P G σ H) (ha : a < σ.1) : (σ.2.1 (a + 1)).2 ≤ hf_cs :=
  Nat.le_trans (hf_sum_le (fun a => (σ.2.1 a).2) σ.1 (a + 1) (by omega) (by omega)) hP.2.2.2.2.1
/-- one number of one cell is another now -/
theorem hf_P.put {G : hf_E} {σ : hf_S} {H H' : Heap} {a k : Nat} {x : Int} {cell : Cell} {v : Value} (hP : hf_P G σ H) (ha : a < σ.1) (hc : H[G.1.size + a]? = some cell) (hcell : hf_cell G (σ.2.1 (a + 1)) (σ.2.2 (a + 1)) cell) (hk : k < hf_num (σ.2.1 (a + 1)).1 (σ.2.1 (a + 1)).2)
    (hinj : ∀ i j, i < hf_num (σ.2.1 (a + 1)).1 (σ.2.1 (a + 1)).2 → j < hf_num (σ.2.1 (a + 1)).1 (σ.2.1 (a + 1)).2 → i ≠ j → hf_slot G (σ.2.1 (a + 1)).1 i ≠ hf_slot G (σ.2.1 (a + 1)).1 j)
    (hv : v = hf_v G (hf_code (hf_ty (σ.2.1 (a + 1)).1 k)) x) (e1 : H'[G.1.size + a]? = some (cell.setSlot (hf_slot G (σ.2.1 (a + 1)).1 k) v)) (e2 : H'.size = H.size) (e3 : ∀ q, q ≠ G.1.size + a → H'[q]? = H[q]?) : hf_P G (σ.1, σ.2.1, hf_up σ.2.2 (a + 1) k x) H' := by
  refine ⟨e2.trans hP.1, fun q hq => (e3 q (by omega)).trans (hP.2.1 q hq), fun b hb => ?_, hP.2.2.2.1, hP.2.2.2.2.1, by simpa [hf_X, hf_up] using hP.2.2.2.2.2⟩
  by_cases hba : b = a
  · subst hba
    refine ⟨_, e1, hcell.1, ?_, hcell.2.2.1, fun j hj => ?_⟩
    · have := hcell.2.1
      simpa [Cell.setSlot] using this
    · by_cases hjk : j = k
      · subst hjk
        rw [Cell.slots_setSlot_self _ (k2_hasslot (hcell.2.2.2 j hk)), hv]
        simp [hf_up]
      · rw [slot_ne _ _ (hinj k j hk hj (fun h => hjk h.symm)), hcell.2.2.2 j hj]
        simp [hf_up, hjk]
  · obtain ⟨cb, q1, q2⟩ := hP.2.2.1 b hb
    refine ⟨cb, (e3 _ (by omega)).trans q1, ?_⟩
    have : hf_up σ.2.2 (a + 1) k x (b + 1) = σ.2.2 (b + 1) := by funext j; simp [hf_up, hba]
    show hf_cell G (σ.2.1 (b + 1)) (hf_up σ.2.2 (a + 1) k x (b + 1)) cb
    rw [this]; exact q2
/-- a new cell -/
theorem hf_P.push {G : hf_E} {σ : hf_S} {H : Heap} {tg len : Nat} {cell : Cell} (hP : hf_P G σ H) (hcell : hf_cell G (tg, len) (fun _ => 0) cell) (h1 : σ.1 + 1 ≤ hf_cc) (h2 : hf_sl σ + len ≤ hf_cs) :
    hf_P G (σ.1 + 1, (fun a => if a = σ.1 + 1 then (tg, len) else σ.2.1 a), (fun b j => if b = σ.1 + 1 then 0 else σ.2.2 b j)) (H.push cell) := by
  have hz := hP.1
  refine ⟨by rw [Array.size_push, hz]; omega, fun q hq => ?_, fun b hb => ?_, h1, ?_, by simpa [hf_X] using hP.2.2.2.2.2⟩
  · rw [Array.getElem?_push, if_neg (by omega)]; exact hP.2.1 q hq
  · by_cases hbn : b = σ.1
    · subst hbn
      refine ⟨cell, by rw [Array.getElem?_push, if_pos (by omega)], ?_⟩
      simpa using hcell
    · obtain ⟨cb, q1, q2⟩ := hP.2.2.1 b (by have : b < σ.1 + 1 := hb; omega)
      refine ⟨cb, by rw [Array.getElem?_push, if_neg (by omega)]; exact q1, ?_⟩
      have e1 : ¬ (b + 1 = σ.1 + 1) := by omega
      simpa [e1, hbn] using q2
  · show hf_sum _ (σ.1 + 1) ≤ hf_cs
    simp only [hf_sum, if_pos]
    rw [hf_sum_congr (g := fun a => (σ.2.1 a).2) σ.1 (fun a _ h => by rw [if_neg (by omega)])]
    exact h2
def hf_fit (ty : FieldType) (v : Int) : Prop := match ty with
  | .int => True
  | .long => True
  | .boolean => v = 0 ∨ v = 1
  | .object _ => True
  | .array _ => True
  | _ => False
theorem hf_fits {G : hf_E} {ty : FieldType} {v : Int} (h : hf_fit ty v) : narrow ty (hf_v G (hf_code ty) v) = hf_v G (hf_code ty) v ∧ fits ty (hf_v G (hf_code ty) v) = true := by
  cases ty with
  | int => exact ⟨rfl, rfl⟩
  | long => exact ⟨rfl, rfl⟩
  | boolean => rcases h with rfl | rfl <;> exact ⟨rfl, rfl⟩
  | object n => rcases hf_v2 G v with h | ⟨a, h⟩ <;> (show narrow _ (hf_v G 2 v) = hf_v G 2 v ∧ fits _ (hf_v G 2 v) = true) <;> rw [h] <;> exact ⟨rfl, rfl⟩
  | array t => rcases hf_v2 G v with h | ⟨a, h⟩ <;> (show narrow _ (hf_v G 2 v) = hf_v G 2 v ∧ fits _ (hf_v G 2 v) = true) <;> rw [h] <;> exact ⟨rfl, rfl⟩
  | _ => exact h.elim
/-- the entry i of own's pool is field k of the objects with tag tg -/
def hf_fl (own : String) (i tg k t : Nat) (fin : Bool) : Prop := ∃ q : vw_C, vwCl[tg]? = some q ∧ k < q.2.2 ∧ Cond.fieldLink own i (q.2.1 k).1 (q.2.1 k).2.1 (q.2.1 k).2.2.1 ∈ hf_all ∧ hf_code (hf_oty tg k) = t ∧ (q.2.1 k).2.2.2 = fin
theorem hf_vw_lt {tg : Nat} {q : vw_C} (h : vwCl[tg]? = some q) : tg < 13 := (List.getElem?_eq_some_iff.mp h).1
theorem hf_vw_ok : ∀ (tg : Nat) (q : vw_C), vwCl[tg]? = some q → (∀ k, k < q.2.2 → parseFieldDescriptor (q.2.1 k).2.2.1 = some (hf_oty tg k)) ∧ ∀ a, a < q.2.2 → ∀ b, b < q.2.2 → a ≠ b → (q.2.1 a).2.1 ≠ (q.2.1 b).2.1 := by
  intro tg q h
  match tg, h with
  | 0, h => cases h; exact ⟨tyX0_ok, nmX0⟩
  | 1, h => cases h; exact ⟨tyX1_ok, nmX1⟩
  | 2, h => cases h; exact ⟨tyX2_ok, nmX2⟩
  | 3, h => cases h; exact ⟨tyX3_ok, nmX3⟩
  | 4, h => cases h; exact ⟨tyX4_ok, nmX4⟩
  | 5, h => cases h; exact ⟨tyX5_ok, nmX5⟩
  | 6, h => cases h; exact ⟨tyX6_ok, nmX6⟩
  | 7, h => cases h; exact ⟨tyX7_ok, nmX7⟩
  | 8, h => cases h; exact ⟨tyX8_ok, nmX8⟩
  | 9, h => cases h; exact ⟨tyX9_ok, nmX9⟩
  | 10, h => cases h; exact ⟨tyX10_ok, nmX10⟩
  | 11, h => cases h; exact ⟨tyX11_ok, nmX11⟩
  | 12, h => cases h; exact ⟨tyX12_ok, nmX12⟩
  | n + 13, h => cases h
theorem hf_vw_num {tg len : Nat} {q : vw_C} (h : vwCl[tg]? = some q) : hf_num tg len = q.2.2 := by
  unfold hf_num; rw [if_pos (hf_vw_lt h), h]
theorem hf_gf_some {tg k : Nat} {o : Int} {f : Int → hf_M Int} {σ : hf_S} {z : Int × hf_S} (h : hf_bd (hf_gf tg k o) f σ = some z) : hf_is σ tg o ∧ f (σ.2.2 o.toNat k) σ = some z := by
  unfold hf_bd hf_gf at h
  by_cases hi : hf_is σ tg o
  · rw [if_pos hi] at h; exact ⟨hi, h⟩
  · rw [if_neg hi] at h; cases h
theorem hf_pf_some {tg k : Nat} {o v : Int} {f : Unit → hf_M Int} {σ : hf_S} {z : Int × hf_S} (h : hf_bd (hf_pf tg k o v) f σ = some z) : hf_is σ tg o ∧ f () (σ.1, σ.2.1, hf_up σ.2.2 o.toNat k v) = some z := by
  unfold hf_bd hf_pf at h
  by_cases hi : hf_is σ tg o
  · rw [if_pos hi] at h; exact ⟨hi, h⟩
  · rw [if_neg hi] at h; cases h
theorem hf_al_some {tg : Nat} {o i : Int} {f : Int → hf_M Int} {σ : hf_S} {z : Int × hf_S} (h : hf_bd (hf_al tg o i) f σ = some z) : hf_is σ tg o ∧ 0 ≤ i ∧ i < (σ.2.1 o.toNat).2 ∧ f (σ.2.2 o.toNat i.toNat) σ = some z := by
  unfold hf_bd hf_al at h
  by_cases hi : hf_is σ tg o ∧ 0 ≤ i ∧ i < (σ.2.1 o.toNat).2
  · rw [if_pos hi] at h; exact ⟨hi.1, hi.2.1, hi.2.2, h⟩
  · rw [if_neg hi] at h; cases h
theorem hf_as_some {tg : Nat} {o i v : Int} {f : Unit → hf_M Int} {σ : hf_S} {z : Int × hf_S} (h : hf_bd (hf_as tg o i v) f σ = some z) : hf_is σ tg o ∧ 0 ≤ i ∧ i < (σ.2.1 o.toNat).2 ∧ f () (σ.1, σ.2.1, hf_up σ.2.2 o.toNat i.toNat v) = some z := by
  unfold hf_bd hf_as at h
  by_cases hi : hf_is σ tg o ∧ 0 ≤ i ∧ i < (σ.2.1 o.toNat).2
  · rw [if_pos hi] at h; exact ⟨hi.1, hi.2.1, hi.2.2, h⟩
  · rw [if_neg hi] at h; cases h
theorem hf_an_some {tg : Nat} {o : Int} {f : Int → hf_M Int} {σ : hf_S} {z : Int × hf_S} (h : hf_bd (hf_an tg o) f σ = some z) : hf_is σ tg o ∧ f ((σ.2.1 o.toNat).2 : Int) σ = some z := by
  unfold hf_bd hf_an at h
  by_cases hi : hf_is σ tg o
  · rw [if_pos hi] at h; exact ⟨hi, h⟩
  · rw [if_neg hi] at h; cases h
theorem hf_clamp {i : Int} {n : Nat} (h0 : 0 ≤ i) (h1 : i < n) (hn : n ≤ hf_cs) : ¬ (Int32.ofInt i < 0 ∨ n ≤ (Int32.ofInt i).toNatClampNeg) ∧ (Int32.ofInt i).toNatClampNeg = i.toNat := by
  unfold hf_cs at hn
  have hr : hf_inI i := ⟨by omega, by omega⟩
  have e : (Int32.ofInt i).toNatClampNeg = i.toNat := by show (Int32.ofInt i).toInt.toNat = i.toNat; rw [hf_toInt hr]
  refine ⟨fun h => ?_, e⟩
  rcases h with h | h
  · have := (hf_lt0 hr).mp h; omega
  · rw [e] at h; omega
section HFF
variable {M : hf_D} {pc : Nat} {lv lv' : List (Nat × Nat × Int)} {st : List (Nat × Int)} {k k1 k2 : hf_M Int}
theorem hf_getf0 {i tg j t : Nat} {fin : Bool} {o : Int} {f : Int → hf_M Int} (hin : ∀ (tg : Nat) (q : vw_C), vwCl[tg]? = some q → ∀ w ∈ u_ws q.1 q.2.1 q.2.2, w ∈ hf_all) (hf : hf_fl M.1.cls i tg j t fin) (hdg : decode M.2.1 pc = .ok (.getfield i, 3)) (h : ∀ v, hf_J M (pc + 3) lv ((t, v) :: st) (f v)) : hf_J M pc lv ((2, o) :: st) (hf_bd (hf_gf tg j o) f) := by
  intro p l e R s m args below meth c G n0 s0 C H locs ls σ σ' r cells slots Q hP hL hlv hk hret
  obtain ⟨hi, hk⟩ := hf_gf_some hk
  obtain ⟨a, cell, q1, q2, q3, q4, q5, q6⟩ := hP.get hi
  have w := h _ p l e R s m args below meth c G n0 s0 C H locs ls σ σ' r cells slots Q hP hL hlv hk hret
  obtain ⟨hx, hb, -, hown, hts, -, -, -, -, -, -, hK⟩ := C
  obtain ⟨q, hc, hjN, hlink, hcode, -⟩ := hf
  show W p l e R s m args below meth c H locs cells slots Q (F0 m pc ls (hf_v G 2 o :: st.map (hf_w G)))
  rw [q3]
  obtain ⟨hS, hfc, kC, hkC, hkind⟩ := hK.1.1 tg _ hc
  obtain ⟨cf, kf, fi, fd, hfi, hsl⟩ := hS j hjN
  have hlt := hf_vw_lt hc
  refine W.getf hx hb hown (hts _ hlink) hfi (u_facts hfc hkC (u_lays hts (hin tg q hc) hjN) hfi).1 q4 (by rw [q5.1]; exact fun h => by cases h) (v := hf_v G t (σ.2.2 o.toNat j)) ?_ rfl rfl hdg w
  have h4 := q5.2.2.2 j (by rw [q6, hf_vw_num hc]; exact hjN)
  rw [q6] at h4
  unfold hf_slot hf_ty at h4
  rw [if_pos hlt, if_pos hlt, hcode] at h4
  rw [hsl, h4, q1]
theorem hf_apart0 {G : hf_E} {s : State} {args : Array Value} (hin : ∀ (tg : Nat) (q : vw_C), vwCl[tg]? = some q → ∀ w ∈ u_ws q.1 q.2.1 q.2.2, w ∈ hf_all) (hts : ∀ w ∈ hf_all, w.before args s = true) (hK : hf_K G s) {tg : Nat} {q : vw_C} (hc : vwCl[tg]? = some q) (len : Nat) : ∀ i j, i < hf_num tg len → j < hf_num tg len → i ≠ j → hf_slot G tg i ≠ hf_slot G tg j := by
  intro i j hi hj hij
  rw [hf_vw_num hc] at hi hj
  unfold hf_slot
  rw [if_pos (hf_vw_lt hc), if_pos (hf_vw_lt hc)]
  exact va_apart (own := "") hts (hin tg q hc) (hf_oty tg) (hf_vw_ok tg q hc).1 (hf_vw_ok tg q hc).2 hK.1 hc i j hi hj hij
theorem hf_putf0 {i tg j t : Nat} {fin : Bool} {o x : Int} {f : Unit → hf_M Int} (hin : ∀ (tg : Nat) (q : vw_C), vwCl[tg]? = some q → ∀ w ∈ u_ws q.1 q.2.1 q.2.2, w ∈ hf_all) (hf : hf_fl M.1.cls i tg j t fin) (hfin : fin = true → M.1.name = "<init>" ∧ ∀ q : vw_C, vwCl[tg]? = some q → (q.2.1 j).1 = M.1.cls) (hfit : hf_fit (hf_oty tg j) x) (hdg : decode M.2.1 pc = .ok (.putfield i, 3)) (h : hf_J M (pc + 3) lv st (f ())) : hf_J M pc lv ((t, x) :: (2, o) :: st) (hf_bd (hf_pf tg j o x) f) := by
  intro p l e R s m args below meth c G n0 s0 C H locs ls σ σ' r cells slots Q hP hL hlv hk hret
  obtain ⟨hi, hk⟩ := hf_pf_some hk
  obtain ⟨a, cell, q1, q2, q3, q4, q5, q6⟩ := hP.get hi
  have C0 := C
  obtain ⟨hx, hb, -, hown, hts, -, -, hname, -, -, -, hK⟩ := C
  obtain ⟨q, hc, hjN, hlink, hcode, hfl⟩ := hf
  show W p l e R s m args below meth c H locs cells slots Q (F0 m pc ls (hf_v G t x :: hf_v G 2 o :: st.map (hf_w G)))
  rw [q3]
  obtain ⟨hS, hfc, kC, hkC, hkind⟩ := hK.1.1 tg _ hc
  obtain ⟨cf, kf, fi, fd, hfi, hsl⟩ := hS j hjN
  have hlt := hf_vw_lt hc
  have hcls : cell.cls = G.2.2.1.1 tg := by have := q5.2.2.1 (by rw [q6]; omega); rw [this, q6]; unfold hf_cls; rw [if_pos hlt]
  have hslot : hf_slot G (σ.2.1 (a + 1)).1 j = fd.slot := by rw [q6, hsl]; unfold hf_slot; rw [if_pos hlt]
  have hnum : j < hf_num (σ.2.1 (a + 1)).1 (σ.2.1 (a + 1)).2 := by rw [q6, hf_vw_num hc]; exact hjN
  have hst := (u_facts hfc hkC (u_lays hts (hin tg q hc) hjN) hfi).1
  obtain ⟨f1, f2⟩ := hf_fits (G := G) hfit
  rw [hcode] at f1 f2
  have hty := (hf_vw_ok tg q hc).1 j hjN
  have kk : ∀ H' : Heap, H'[G.1.size + a]? = some (cell.setSlot fd.slot (hf_v G t x)) → H'.size = H.size → (∀ z, z ≠ G.1.size + a → H'[z]? = H[z]?) → W p l e R s m args below meth c H' (locs ++ [⟨G.1.size + a, fd.slot⟩]) cells slots Q (F0 m (pc + 3) ls (st.map (hf_w G))) := by
    intro H' e1 e2 e3
    refine h p l e R s m args below meth c G n0 s0 C0 H' _ ls _ σ' r cells slots Q (hP.put (x := x) (v := hf_v G t x) q2 q4 q5 hnum (by rw [q6]; exact hf_apart0 hin hts hK hc _) (by rw [q6]; unfold hf_ty; rw [if_pos hlt, hcode]) (by rw [hslot]; exact e1) e2 e3) (fun z hz => ?_) hlv (by rw [← q1]; exact hk) hret
    rcases List.mem_append.mp hz with hz | hz
    · exact hL z hz
    · rw [List.mem_singleton.mp hz]; exact Nat.le_add_right _ _
  have hlt2 : fd.slot < cell.slots.size := by rw [← hslot]; exact k2_hasslot (q5.2.2.2 j hnum)
  cases fin with
  | false =>
    have hlay := hts _ (hin tg q hc _ (u_in_lay hjN))
    unfold u_lay at hlay
    rw [if_neg (by rw [hfl]; decide)] at hlay
    have h6 := u_store hfc hkC hkind hlay hfi hty f1 f2
    exact W.putK hx hb (f := fd) ⟨hown, hts _ hlink, ⟨_, _, _, hfi⟩, hst⟩ (by rw [hcls]; exact h6) q4 q5.1 hlt2 rfl rfl hdg kk
  | true =>
    have hlay := hts _ (hin tg q hc _ (u_in_lay hjN))
    unfold u_lay at hlay
    rw [if_pos hfl] at hlay
    obtain ⟨hn1, hn2⟩ := hfin rfl
    have hcf : m.cls = cf := by
      obtain ⟨_, _, c', _, _, _, -, -, hf', -, -, -, hown2, -⟩ := Cond.laysFinal_spec hlay
      have e1 : c' = cf := by have := hfi.symm.trans hf'; simp at this; exact this.1.symm
      rw [hn2 q hc] at hown2
      rw [← e1]; exact Option.some.inj (hown.symm.trans hown2)
    have h6 := u_fits hfc hkC hkind (Or.inr hlay) hfi hty f1 f2
    exact W.putFinK hx hb hown (hts _ hlink) hfi hst hcf (hname.trans hn1) (by rw [hcls]; exact h6) q4 q5.1 hlt2 rfl rfl hdg kk
end HFF
