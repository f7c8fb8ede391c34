/-! ARRAYS AND NEW CELLS -/
theorem hf_dflt {G : hf_E} {ty : FieldType} (h : ty ≠ .float ∧ ty ≠ .double) : defaultValue ty = hf_v G (hf_code ty) 0 := by
  cases ty with
  | float => exact absurd rfl h.1
  | double => exact absurd rfl h.2
  | _ => rfl
theorem hf_vw_nf : ∀ (tg : Nat) (q : vw_C), vwCl[tg]? = some q → ∀ k, k < q.2.2 → hf_oty tg k ≠ .float ∧ hf_oty tg k ≠ .double := by
  intro tg q h
  match tg, h with
  | 0, h => cases h; exact (by decide +kernel : ∀ k, k < 18 → tyX0 k ≠ .float ∧ tyX0 k ≠ .double)
  | 1, h => cases h; exact (by decide +kernel : ∀ k, k < 14 → tyX1 k ≠ .float ∧ tyX1 k ≠ .double)
  | 2, h => cases h; exact (by decide +kernel : ∀ k, k < 2 → tyX2 k ≠ .float ∧ tyX2 k ≠ .double)
  | 3, h => cases h; exact (by decide +kernel : ∀ k, k < 8 → tyX3 k ≠ .float ∧ tyX3 k ≠ .double)
  | 4, h => cases h; exact (by decide +kernel : ∀ k, k < 6 → tyX4 k ≠ .float ∧ tyX4 k ≠ .double)
  | 5, h => cases h; exact (by decide +kernel : ∀ k, k < 13 → tyX5 k ≠ .float ∧ tyX5 k ≠ .double)
  | 6, h => cases h; exact (by decide +kernel : ∀ k, k < 4 → tyX6 k ≠ .float ∧ tyX6 k ≠ .double)
  | 7, h => cases h; exact (by decide +kernel : ∀ k, k < 3 → tyX7 k ≠ .float ∧ tyX7 k ≠ .double)
  | 8, h => cases h; exact (by decide +kernel : ∀ k, k < 8 → tyX8 k ≠ .float ∧ tyX8 k ≠ .double)
  | 9, h => cases h; exact (by decide +kernel : ∀ k, k < 6 → tyX9 k ≠ .float ∧ tyX9 k ≠ .double)
  | 10, h => cases h; exact (by decide +kernel : ∀ k, k < 6 → tyX10 k ≠ .float ∧ tyX10 k ≠ .double)
  | 11, h => cases h; exact (by decide +kernel : ∀ k, k < 15 → tyX11 k ≠ .float ∧ tyX11 k ≠ .double)
  | 12, h => cases h; exact (by decide +kernel : ∀ k, k < 69 → tyX12 k ≠ .float ∧ tyX12 k ≠ .double)
  | n + 13, h => cases h
theorem hf_isarr {G : hf_E} {s : State} {tg : Nat} {tl : Nat × Nat} {f : Nat → Int} {cell : Cell} (hK : hf_K G s) (h1 : 20 ≤ tg) (h2 : tg < 25) (hc : hf_cell G tl f cell) (ht : tl.1 = tg) : s.isArrayOf cell (hf_aty tg) := by
  obtain ⟨kA, comp, a1, a2, -, -⟩ := hK.2.1 tg h1 h2
  refine ⟨fun k hk => (by rw [hc.1] at hk; cases hk), kA, ?_, comp, a2⟩
  rw [hc.2.2.1 (by omega), ht]
  unfold hf_cls
  rw [if_neg (by omega)]
  exact a1
theorem hf_elem {G : hf_E} {tg : Nat} {tl : Nat × Nat} {f : Nat → Int} {cell : Cell} (h1 : 20 ≤ tg) (h2 : tg < 25) (hc : hf_cell G tl f cell) (ht : tl.1 = tg) {j : Nat} (hj : j < tl.2) : cell.slots[j]? = some (hf_v G (hf_code (hf_aty tg)) (f j)) := by
  have h := hc.2.2.2 j (by unfold hf_num; rw [ht, if_neg (by omega), if_pos h2]; exact hj)
  unfold hf_slot hf_ty at h
  rw [ht, if_neg (by omega), if_neg (by omega)] at h
  exact h
theorem hf_P.puta {G : hf_E} {σ : hf_S} {H H' : Heap} {a j tg : Nat} {x : Int} {cell : Cell} {v : Value} (hP : hf_P G σ H) (ha : a < σ.1) (hc : H[G.1.size + a]? = some cell) (hcell : hf_cell G (σ.2.1 (a + 1)) (σ.2.2 (a + 1)) cell) (h1 : 20 ≤ tg) (h2 : tg < 25) (ht : (σ.2.1 (a + 1)).1 = tg) (hj : j < (σ.2.1 (a + 1)).2)
    (hv : v = hf_v G (hf_code (hf_aty tg)) x) (e1 : H'[G.1.size + a]? = some (cell.setSlot j v)) (e2 : H'.size = H.size) (e3 : ∀ q, q ≠ G.1.size + a → H'[q]? = H[q]?) : hf_P G (σ.1, σ.2.1, hf_up σ.2.2 (a + 1) j x) H' := by
  refine hP.put (v := v) ha hc hcell (by unfold hf_num; rw [ht, if_neg (by omega), if_pos h2]; exact hj) ?_ ?_ ?_ e2 e3
  · intro i k _ _ hik
    unfold hf_slot; rw [ht, if_neg (by omega), if_neg (by omega)]; exact hik
  · unfold hf_ty; rw [ht, if_neg (by omega)]; exact hv
  · unfold hf_slot; rw [ht, if_neg (by omega)]; exact e1
section HFA
variable {M : hf_D} {pc : Nat} {lv lv' : List (Nat × Nat × Int)} {st : List (Nat × Int)} {k k1 k2 : hf_M Int}
theorem hf_nb {x : Int} (h : -128 ≤ x ∧ x ≤ 127) : narrow .byte (.int (Int32.ofInt x)) = .int (Int32.ofInt x) := by
  show Value.int ((Int32.ofInt x).toInt8.toInt32) = _
  congr 1
  rw [← Int32.toInt_inj]
  rw [hf_toInt ⟨by omega, by omega⟩]
  rw [Int32.toInt8_ofInt]
  rw [Int8.toInt_toInt32, Int8.toInt_ofInt_of_le (by omega) (by omega)]
theorem hf_nc {x : Int} (h : 0 ≤ x ∧ x ≤ 65535) : narrow .char (.int (Int32.ofInt x)) = .int (Int32.ofInt x) := by
  have e : Int32.ofInt x = nI x.toNat := by
    rw [← Int32.toInt_inj, hf_toInt ⟨by omega, by omega⟩, nI_toInt (by omega)]; omega
  rw [e]; exact (pk_charN (by omega)).1
theorem hf_nz {x : Int} (h : x = 0 ∨ x = 1) : narrow .boolean (.int (Int32.ofInt x)) = .int (Int32.ofInt x) := by
  rcases h with rfl | rfl <;> rfl
theorem hf_iald {o i : Int} {f : Int → hf_M Int} (hdg : decode M.2.1 pc = .ok (.iaload, 1)) (h : ∀ v, hf_J M (pc + 1) lv ((0, v) :: st) (f v)) : hf_J M pc lv ((0, i) :: (2, o) :: st) (hf_bd (hf_al 20 o i) f) := by
  intro p l e R s m args below meth c G n0 s0 C H locs ls σ σ' r cells slots Q hP hL hlv hk hret
  obtain ⟨hi, i0, i1, hk⟩ := hf_al_some hk
  obtain ⟨a, cell, q1, q2, q3, q4, q5, q6⟩ := hP.get hi
  have w := h _ p l e R s m args below meth c G n0 s0 C H locs ls σ σ' r cells slots Q hP hL hlv hk hret
  obtain ⟨hx, hb, -, hown, hts, -, -, -, -, -, -, hK⟩ := C
  show W p l e R s m args below meth c H locs cells slots Q (F0 m pc ls (.int (Int32.ofInt i) :: hf_v G 2 o :: st.map (hf_w G)))
  rw [q3]
  rw [q1] at i1
  obtain ⟨g1, g2⟩ := hf_clamp i0 i1 (hP.len q2)
  refine W.iald hx hb q4 (hf_isarr (tg := 20) hK (by omega) (by omega) q5 q6) (by rw [q5.1]; exact fun h => by cases h) (by rw [q5.2.1]; exact g1) (v := hf_v G 0 (σ.2.2 o.toNat i.toNat)) ?_ rfl rfl hdg w
  rw [g2, hf_elem (tg := 20) (by omega) (by omega) q5 q6 (by omega), q1]
  rfl
theorem hf_iast {o i x : Int} {f : Unit → hf_M Int} (hdg : decode M.2.1 pc = .ok (.iastore, 1)) (h : hf_J M (pc + 1) lv st (f ())) : hf_J M pc lv ((0, x) :: (0, i) :: (2, o) :: st) (hf_bd (hf_as 20 o i x) f) := by
  intro p l e R s m args below meth c G n0 s0 C H locs ls σ σ' r cells slots Q hP hL hlv hk hret
  obtain ⟨hi, i0, i1, hk⟩ := hf_as_some hk
  obtain ⟨a, cell, q1, q2, q3, q4, q5, q6⟩ := hP.get hi
  have C0 := C
  obtain ⟨hx, hb, -, hown, hts, -, -, -, -, -, -, hK⟩ := C
  show W p l e R s m args below meth c H locs cells slots Q (F0 m pc ls (.int (Int32.ofInt x) :: .int (Int32.ofInt i) :: hf_v G 2 o :: st.map (hf_w G)))
  rw [q3]
  rw [q1] at i1 hk
  obtain ⟨g1, g2⟩ := hf_clamp i0 i1 (hP.len q2)
  refine W.iast hx hb q4 (hf_isarr (tg := 20) hK (by omega) (by omega) q5 q6) (by rw [q5.1]; exact fun h => by cases h) (by rw [q5.2.1]; exact g1) rfl rfl hdg (fun H' e1 e2 e3 => ?_)
  rw [g2] at e1 ⊢
  refine h p l e R s m args below meth c G n0 s0 C0 H' _ ls _ σ' r cells slots Q (hP.puta (tg := 20) (x := x) q2 q4 q5 (by omega) (by omega) q6 (by omega) (rfl) e1 e2 e3) (fun z hz => ?_) hlv hk hret
  rcases List.mem_append.mp hz with hz | hz
  · exact hL z hz
  · rw [List.mem_singleton.mp hz]; exact Nat.le_add_right _ _
theorem hf_lald {o i : Int} {f : Int → hf_M Int} (hdg : decode M.2.1 pc = .ok (.laload, 1)) (h : ∀ v, hf_J M (pc + 1) lv ((1, v) :: st) (f v)) : hf_J M pc lv ((0, i) :: (2, o) :: st) (hf_bd (hf_al 21 o i) f) := by
  intro p l e R s m args below meth c G n0 s0 C H locs ls σ σ' r cells slots Q hP hL hlv hk hret
  obtain ⟨hi, i0, i1, hk⟩ := hf_al_some hk
  obtain ⟨a, cell, q1, q2, q3, q4, q5, q6⟩ := hP.get hi
  have w := h _ p l e R s m args below meth c G n0 s0 C H locs ls σ σ' r cells slots Q hP hL hlv hk hret
  obtain ⟨hx, hb, -, hown, hts, -, -, -, -, -, -, hK⟩ := C
  show W p l e R s m args below meth c H locs cells slots Q (F0 m pc ls (.int (Int32.ofInt i) :: hf_v G 2 o :: st.map (hf_w G)))
  rw [q3]
  rw [q1] at i1
  obtain ⟨g1, g2⟩ := hf_clamp i0 i1 (hP.len q2)
  refine W.lald hx hb q4 (hf_isarr (tg := 21) hK (by omega) (by omega) q5 q6) (by rw [q5.1]; exact fun h => by cases h) (by rw [q5.2.1]; exact g1) (v := hf_v G 1 (σ.2.2 o.toNat i.toNat)) ?_ rfl rfl hdg w
  rw [g2, hf_elem (tg := 21) (by omega) (by omega) q5 q6 (by omega), q1]
  rfl
theorem hf_last {o i x : Int} {f : Unit → hf_M Int} (hdg : decode M.2.1 pc = .ok (.lastore, 1)) (h : hf_J M (pc + 1) lv st (f ())) : hf_J M pc lv ((1, x) :: (0, i) :: (2, o) :: st) (hf_bd (hf_as 21 o i x) f) := by
  intro p l e R s m args below meth c G n0 s0 C H locs ls σ σ' r cells slots Q hP hL hlv hk hret
  obtain ⟨hi, i0, i1, hk⟩ := hf_as_some hk
  obtain ⟨a, cell, q1, q2, q3, q4, q5, q6⟩ := hP.get hi
  have C0 := C
  obtain ⟨hx, hb, -, hown, hts, -, -, -, -, -, -, hK⟩ := C
  show W p l e R s m args below meth c H locs cells slots Q (F0 m pc ls (.long (Int64.ofInt x) :: .int (Int32.ofInt i) :: hf_v G 2 o :: st.map (hf_w G)))
  rw [q3]
  rw [q1] at i1 hk
  obtain ⟨g1, g2⟩ := hf_clamp i0 i1 (hP.len q2)
  refine W.last hx hb q4 (hf_isarr (tg := 21) hK (by omega) (by omega) q5 q6) (by rw [q5.1]; exact fun h => by cases h) (by rw [q5.2.1]; exact g1) rfl rfl hdg (fun H' e1 e2 e3 => ?_)
  rw [g2] at e1 ⊢
  refine h p l e R s m args below meth c G n0 s0 C0 H' _ ls _ σ' r cells slots Q (hP.puta (tg := 21) (x := x) q2 q4 q5 (by omega) (by omega) q6 (by omega) (rfl) e1 e2 e3) (fun z hz => ?_) hlv hk hret
  rcases List.mem_append.mp hz with hz | hz
  · exact hL z hz
  · rw [List.mem_singleton.mp hz]; exact Nat.le_add_right _ _
theorem hf_bald {o i : Int} {f : Int → hf_M Int} (hdg : decode M.2.1 pc = .ok (.baload, 1)) (h : ∀ v, hf_J M (pc + 1) lv ((0, v) :: st) (f v)) : hf_J M pc lv ((0, i) :: (2, o) :: st) (hf_bd (hf_al 22 o i) f) := by
  intro p l e R s m args below meth c G n0 s0 C H locs ls σ σ' r cells slots Q hP hL hlv hk hret
  obtain ⟨hi, i0, i1, hk⟩ := hf_al_some hk
  obtain ⟨a, cell, q1, q2, q3, q4, q5, q6⟩ := hP.get hi
  have w := h _ p l e R s m args below meth c G n0 s0 C H locs ls σ σ' r cells slots Q hP hL hlv hk hret
  obtain ⟨hx, hb, -, hown, hts, -, -, -, -, -, -, hK⟩ := C
  show W p l e R s m args below meth c H locs cells slots Q (F0 m pc ls (.int (Int32.ofInt i) :: hf_v G 2 o :: st.map (hf_w G)))
  rw [q3]
  rw [q1] at i1
  obtain ⟨g1, g2⟩ := hf_clamp i0 i1 (hP.len q2)
  refine W.bald hx hb q4 (hf_isarr (tg := 22) hK (by omega) (by omega) q5 q6) (by rw [q5.1]; exact fun h => by cases h) (by rw [q5.2.1]; exact g1) (v := hf_v G 0 (σ.2.2 o.toNat i.toNat)) ?_ rfl rfl hdg w
  rw [g2, hf_elem (tg := 22) (by omega) (by omega) q5 q6 (by omega), q1]
  rfl
theorem hf_bast {o i x : Int} {f : Unit → hf_M Int} (hx8 : -128 ≤ x ∧ x ≤ 127) (hdg : decode M.2.1 pc = .ok (.bastore, 1)) (h : hf_J M (pc + 1) lv st (f ())) : hf_J M pc lv ((0, x) :: (0, i) :: (2, o) :: st) (hf_bd (hf_as 22 o i x) f) := by
  intro p l e R s m args below meth c G n0 s0 C H locs ls σ σ' r cells slots Q hP hL hlv hk hret
  obtain ⟨hi, i0, i1, hk⟩ := hf_as_some hk
  obtain ⟨a, cell, q1, q2, q3, q4, q5, q6⟩ := hP.get hi
  have C0 := C
  obtain ⟨hx, hb, -, hown, hts, -, -, -, -, -, -, hK⟩ := C
  show W p l e R s m args below meth c H locs cells slots Q (F0 m pc ls (.int (Int32.ofInt x) :: .int (Int32.ofInt i) :: hf_v G 2 o :: st.map (hf_w G)))
  rw [q3]
  rw [q1] at i1 hk
  obtain ⟨g1, g2⟩ := hf_clamp i0 i1 (hP.len q2)
  refine W.bast hx hb q4 (hf_isarr (tg := 22) hK (by omega) (by omega) q5 q6) (by rw [q5.1]; exact fun h => by cases h) (by rw [q5.2.1]; exact g1) rfl rfl hdg (fun H' e1 e2 e3 => ?_)
  rw [g2] at e1 ⊢
  refine h p l e R s m args below meth c G n0 s0 C0 H' _ ls _ σ' r cells slots Q (hP.puta (tg := 22) (x := x) q2 q4 q5 (by omega) (by omega) q6 (by omega) (hf_nb hx8) e1 e2 e3) (fun z hz => ?_) hlv hk hret
  rcases List.mem_append.mp hz with hz | hz
  · exact hL z hz
  · rw [List.mem_singleton.mp hz]; exact Nat.le_add_right _ _
theorem hf_zald {o i : Int} {f : Int → hf_M Int} (hdg : decode M.2.1 pc = .ok (.baload, 1)) (h : ∀ v, hf_J M (pc + 1) lv ((0, v) :: st) (f v)) : hf_J M pc lv ((0, i) :: (2, o) :: st) (hf_bd (hf_al 23 o i) f) := by
  intro p l e R s m args below meth c G n0 s0 C H locs ls σ σ' r cells slots Q hP hL hlv hk hret
  obtain ⟨hi, i0, i1, hk⟩ := hf_al_some hk
  obtain ⟨a, cell, q1, q2, q3, q4, q5, q6⟩ := hP.get hi
  have w := h _ p l e R s m args below meth c G n0 s0 C H locs ls σ σ' r cells slots Q hP hL hlv hk hret
  obtain ⟨hx, hb, -, hown, hts, -, -, -, -, -, -, hK⟩ := C
  show W p l e R s m args below meth c H locs cells slots Q (F0 m pc ls (.int (Int32.ofInt i) :: hf_v G 2 o :: st.map (hf_w G)))
  rw [q3]
  rw [q1] at i1
  obtain ⟨g1, g2⟩ := hf_clamp i0 i1 (hP.len q2)
  refine W.zald hx hb q4 (hf_isarr (tg := 23) hK (by omega) (by omega) q5 q6) (by rw [q5.1]; exact fun h => by cases h) (by rw [q5.2.1]; exact g1) (v := hf_v G 0 (σ.2.2 o.toNat i.toNat)) ?_ rfl rfl hdg w
  rw [g2, hf_elem (tg := 23) (by omega) (by omega) q5 q6 (by omega), q1]
  rfl
theorem hf_zast {o i x : Int} {f : Unit → hf_M Int} (hx8 : x = 0 ∨ x = 1) (hdg : decode M.2.1 pc = .ok (.bastore, 1)) (h : hf_J M (pc + 1) lv st (f ())) : hf_J M pc lv ((0, x) :: (0, i) :: (2, o) :: st) (hf_bd (hf_as 23 o i x) f) := by
  intro p l e R s m args below meth c G n0 s0 C H locs ls σ σ' r cells slots Q hP hL hlv hk hret
  obtain ⟨hi, i0, i1, hk⟩ := hf_as_some hk
  obtain ⟨a, cell, q1, q2, q3, q4, q5, q6⟩ := hP.get hi
  have C0 := C
  obtain ⟨hx, hb, -, hown, hts, -, -, -, -, -, -, hK⟩ := C
  show W p l e R s m args below meth c H locs cells slots Q (F0 m pc ls (.int (Int32.ofInt x) :: .int (Int32.ofInt i) :: hf_v G 2 o :: st.map (hf_w G)))
  rw [q3]
  rw [q1] at i1 hk
  obtain ⟨g1, g2⟩ := hf_clamp i0 i1 (hP.len q2)
  refine W.zast hx hb q4 (hf_isarr (tg := 23) hK (by omega) (by omega) q5 q6) (by rw [q5.1]; exact fun h => by cases h) (by rw [q5.2.1]; exact g1) rfl rfl hdg (fun H' e1 e2 e3 => ?_)
  rw [g2] at e1 ⊢
  refine h p l e R s m args below meth c G n0 s0 C0 H' _ ls _ σ' r cells slots Q (hP.puta (tg := 23) (x := x) q2 q4 q5 (by omega) (by omega) q6 (by omega) (hf_nz hx8) e1 e2 e3) (fun z hz => ?_) hlv hk hret
  rcases List.mem_append.mp hz with hz | hz
  · exact hL z hz
  · rw [List.mem_singleton.mp hz]; exact Nat.le_add_right _ _
theorem hf_aald {o i : Int} {f : Int → hf_M Int} (hdg : decode M.2.1 pc = .ok (.aaload, 1)) (h : ∀ v, hf_J M (pc + 1) lv ((2, v) :: st) (f v)) : hf_J M pc lv ((0, i) :: (2, o) :: st) (hf_bd (hf_al 24 o i) f) := by
  intro p l e R s m args below meth c G n0 s0 C H locs ls σ σ' r cells slots Q hP hL hlv hk hret
  obtain ⟨hi, i0, i1, hk⟩ := hf_al_some hk
  obtain ⟨a, cell, q1, q2, q3, q4, q5, q6⟩ := hP.get hi
  have w := h _ p l e R s m args below meth c G n0 s0 C H locs ls σ σ' r cells slots Q hP hL hlv hk hret
  obtain ⟨hx, hb, -, hown, hts, -, -, -, -, -, -, hK⟩ := C
  show W p l e R s m args below meth c H locs cells slots Q (F0 m pc ls (.int (Int32.ofInt i) :: hf_v G 2 o :: st.map (hf_w G)))
  rw [q3]
  rw [q1] at i1
  obtain ⟨g1, g2⟩ := hf_clamp i0 i1 (hP.len q2)
  refine W.aald hx hb q4 (hf_isarr (tg := 24) hK (by omega) (by omega) q5 q6) (by decide) (by rw [q5.1]; exact fun h => by cases h) (by rw [q5.2.1]; exact g1) (v := hf_v G 2 (σ.2.2 o.toNat i.toNat)) ?_ rfl rfl hdg w
  rw [g2, hf_elem (tg := 24) (by omega) (by omega) q5 q6 (by omega), q1]
  rfl
/-- a row of ints into an array of rows -/
theorem hf_aast {o i x : Int} {f : Unit → hf_M Int} (hdg : decode M.2.1 pc = .ok (.aastore, 1)) (h : hf_J M (pc + 1) lv st (f ())) : hf_J M pc lv ((2, x) :: (0, i) :: (2, o) :: st) (hf_ob 20 x (hf_bd (hf_as 24 o i x) f)) := by
  intro p l e R s m args below meth c G n0 s0 C H locs ls σ σ' r cells slots Q hP hL hlv hk hret
  have hk0 : hf_is σ 20 x ∧ hf_bd (hf_as 24 o i x) f σ = some (r, σ') := by
    unfold hf_ob at hk
    by_cases hi : hf_is σ 20 x
    · rw [if_pos hi] at hk; exact ⟨hi, hk⟩
    · rw [if_neg hi] at hk; cases hk
  obtain ⟨hix, hk⟩ := hk0
  obtain ⟨hi, i0, i1, hk⟩ := hf_as_some hk
  obtain ⟨a, cell, q1, q2, q3, q4, q5, q6⟩ := hP.get hi
  obtain ⟨b, cellb, p1, p2, p3, p4, p5, p6⟩ := hP.get hix
  have C0 := C
  obtain ⟨hx, hb, -, hown, hts, -, -, -, -, -, -, hK⟩ := C
  show W p l e R s m args below meth c H locs cells slots Q (F0 m pc ls (hf_v G 2 x :: .int (Int32.ofInt i) :: hf_v G 2 o :: st.map (hf_w G)))
  rw [q3, p3]
  rw [q1] at i1 hk
  obtain ⟨g1, g2⟩ := hf_clamp i0 i1 (hP.len q2)
  obtain ⟨kA, comp, a1, a2, a3, -⟩ := hK.2.1 24 (by omega) (by omega)
  obtain ⟨kB, compB, b1, b2, -, -⟩ := hK.2.1 20 (by omega) (by omega)
  have hca : cell.cls = G.2.2.2 24 := by have := q5.2.2.1 (by omega); rw [this, q6]; unfold hf_cls; rw [if_neg (by omega)]
  have hcb : cellb.cls = G.2.2.2 20 := by have := p5.2.2.1 (by omega); rw [this, p6]; unfold hf_cls; rw [if_neg (by omega)]
  refine W.aast hx hb q4 (fun z hz => by rw [q5.1] at hz; cases hz) (by rw [q5.1]; exact fun h => by cases h) (by rw [hca]; exact a1) a2 rfl (by rw [a3 rfl]; exact b1) ⟨fun hn => g1 (Or.inl hn), by rw [g2, q5.2.1]; omega⟩ p4 (fun z hz => by rw [p5.1] at hz; cases hz) (by rw [hcb]; exact b1) (by rw [hcb, a3 rfl]; exact Vm.assignable_self _ _) rfl rfl hdg (fun H' e1 e2 e3 => ?_)
  rw [g2] at e1 ⊢
  refine h p l e R s m args below meth c G n0 s0 C0 H' _ ls _ σ' r cells slots Q (hP.puta (tg := 24) (x := x) q2 q4 q5 (by omega) (by omega) q6 (by omega) (by rw [← p3]; rfl) e1 e2 e3) (fun z hz => ?_) hlv hk hret
  rcases List.mem_append.mp hz with hz | hz
  · exact hL z hz
  · rw [List.mem_singleton.mp hz]; exact Nat.le_add_right _ _
theorem hf_alen {o : Int} {f : Int → hf_M Int} (tg : Nat) (h1 : 20 ≤ tg) (h2 : tg < 25) (hdg : decode M.2.1 pc = .ok (.arraylength, 1)) (h : ∀ v, hf_J M (pc + 1) lv ((0, v) :: st) (f v)) : hf_J M pc lv ((2, o) :: st) (hf_bd (hf_an tg o) f) := by
  intro p l e R s m args below meth c G n0 s0 C H locs ls σ σ' r cells slots Q hP hL hlv hk hret
  obtain ⟨hi, hk⟩ := hf_an_some hk
  obtain ⟨a, cell, q1, q2, q3, q4, q5, q6⟩ := hP.get hi
  have w := h _ p l e R s m args below meth c G n0 s0 C H locs ls σ σ' r cells slots Q hP hL hlv hk hret
  obtain ⟨hx, hb, -, hown, hts, -, -, -, -, -, -, hK⟩ := C
  show W p l e R s m args below meth c H locs cells slots Q (F0 m pc ls (hf_v G 2 o :: st.map (hf_w G)))
  rw [q3]
  refine W.alen hx hb q4 (hf_isarr (tg := tg) hK h1 h2 q5 q6) (n := Int32.ofInt ((σ.2.1 o.toNat).2 : Int)) ?_ rfl rfl hdg w
  rw [q5.2.1, q1]
  rfl
theorem hf_nw_some {tg len : Nat} {f : Int → hf_M Int} {σ : hf_S} {z : Int × hf_S} (h : hf_bd (hf_nw tg len) f σ = some z) : σ.1 + 1 ≤ hf_cc ∧ hf_sl σ + len ≤ hf_cs ∧ f ((σ.1 + 1 : Nat) : Int) (σ.1 + 1, (fun a => if a = σ.1 + 1 then (tg, len) else σ.2.1 a), (fun b j => if b = σ.1 + 1 then 0 else σ.2.2 b j)) = some z := by
  unfold hf_bd hf_nw at h
  by_cases hi : σ.1 + 1 ≤ hf_cc ∧ hf_sl σ + len ≤ hf_cs
  · rw [if_pos hi] at h; exact ⟨hi.1, hi.2, h⟩
  · rw [if_neg hi] at h; cases h
theorem hf_na_some {tg : Nat} {n : Int} {f : Int → hf_M Int} {σ : hf_S} {z : Int × hf_S} (h : hf_bd (hf_na tg n) f σ = some z) : 0 ≤ n ∧ hf_bd (hf_nw tg n.toNat) f σ = some z := by
  unfold hf_bd hf_na at h
  by_cases hi : 0 ≤ n
  · rw [if_pos hi] at h; exact ⟨hi, h⟩
  · rw [if_neg hi] at h; cases h
/-- new: an object -/
theorem hf_new0 {i tg : Nat} {q : vw_C} {f : Int → hf_M Int} (hin : ∀ (tg : Nat) (q : vw_C), vwCl[tg]? = some q → ∀ w ∈ u_ws q.1 q.2.1 q.2.2, w ∈ hf_all) (hc : vwCl[tg]? = some q) (hcl : Cond.classLink M.1.cls i q.1 ∈ hf_all) (hinst : Cond.instantiable q.1 q.2.2 ∈ hf_all) (hini : Cond.initialized q.1 ∈ hf_all) (hdg : decode M.2.1 pc = .ok (.new i, 3))
    (h : ∀ v, hf_J M (pc + 3) lv ((2, v) :: st) (f v)) : hf_J M pc lv st (hf_bd (hf_nw tg q.2.2) f) := by
  intro p l e R s m args below meth c G n0 s0 C H locs ls σ σ' r cells slots Q hP hL hlv hk hret
  obtain ⟨c1, c2, hk⟩ := hf_nw_some hk
  have C0 := C
  obtain ⟨hx, hb, -, hown, hts, -, -, -, ⟨-, -, hRc, hRs⟩, hsz, hs0, hK⟩ := C
  have hKn := hK.1.1 tg _ hc
  refine hf_tight hsz hs0 hP (fun t1 t2 => ?_)
  refine W.newc hx hb hown (hts _ hcl) (hts _ hinst) (hts _ hini) rfl hdg (by rw [hRc]; omega) (by rw [hRs]; omega) (fun cC kC r1 r2 r3 r4 => ?_)
  have ecC : cC = G.2.2.1.1 tg := by have := hKn.2.1; rw [r1] at this; exact Option.some.inj this
  subst ecC
  have hcell : hf_cell G (tg, q.2.2) (fun _ => 0) { cls := G.2.2.1.1 tg, slots := kC.instanceTypes.map defaultValue, vm := .none } := by
    refine ⟨rfl, by simpa using r4, fun _ => by unfold hf_cls; rw [if_pos (hf_vw_lt hc)], fun j hj => ?_⟩
    rw [hf_vw_num hc] at hj
    have hb2 := u_born (H := #[blank (G.2.2.1.1 tg) kC]) (o := 0) (hf_oty tg) hts (hin tg q hc) hKn r2 rfl (hf_vw_ok tg q hc).1
    obtain ⟨cell, z1, z2, z3, z4⟩ := hb2
    have z1 : blank (G.2.2.1.1 tg) kC = cell := by simpa using z1
    have z5 := z4 j hj
    rw [← z1] at z5
    have e5 : hf_slot G tg j = G.2.2.1.2 tg j := by unfold hf_slot; rw [if_pos (hf_vw_lt hc)]
    have e6 : hf_ty tg j = hf_oty tg j := by unfold hf_ty; rw [if_pos (hf_vw_lt hc)]
    show (kC.instanceTypes.map defaultValue)[hf_slot G tg j]? = some (hf_v G (hf_code (hf_ty tg j)) 0)
    rw [e5, e6]
    exact z5.trans (congrArg some (hf_dflt (hf_vw_nf tg q hc j hj)))
  have hz := hP.1
  have w := h _ p l e R s m args below meth c G n0 s0 C0 _ locs ls _ σ' r (σ.1 - n0 + 1) (hf_sl σ - s0 + q.2.2) Q (hP.push hcell c1 c2) hL hlv hk hret
  have ev : hf_v G 2 ((σ.1 + 1 : Nat) : Int) = .ref H.size := by
    unfold hf_v; simp only; rw [if_neg (by omega), if_pos (by omega), hz]; congr 1
  have w2 : W p l e R s m args below meth c _ locs (σ.1 - n0 + 1) (hf_sl σ - s0 + q.2.2) Q (F0 m (pc + 3) ls (hf_v G 2 ((σ.1 + 1 : Nat) : Int) :: st.map (hf_w G))) := w
  rw [ev] at w2
  exact w2
theorem hf_newa0 {at0 : ArrayType} {tg : Nat} {n : Int} {f : Int → hf_M Int} (h1 : 20 ≤ tg) (h2 : tg < 24) (hty : newarray.typeOf at0 = hf_aty tg) (hac : Cond.arrayClass (hf_aty tg) ∈ hf_all) (hdg : decode M.2.1 pc = .ok (.newarray at0, 2))
    (h : ∀ v, hf_J M (pc + 2) lv ((2, v) :: st) (f v)) : hf_J M pc lv ((0, n) :: st) (hf_bd (hf_na tg n) f) := by
  intro p l e R s m args below meth c G n0 s0 C H locs ls σ σ' r cells slots Q hP hL hlv hk hret
  obtain ⟨c0, hk⟩ := hf_na_some hk
  obtain ⟨c1, c2, hk⟩ := hf_nw_some hk
  have C0 := C
  obtain ⟨hx, hb, -, hown, hts, -, -, -, ⟨-, -, hRc, hRs⟩, hsz, hs0, hK⟩ := C
  have hcs : hf_cs = 7293034 := rfl
  have hri : hf_inI n := ⟨by omega, by omega⟩
  have ecl : (Int32.ofInt n).toNatClampNeg = n.toNat := by show (Int32.ofInt n).toInt.toNat = n.toNat; rw [hf_toInt hri]
  refine hf_tight hsz hs0 hP (fun t1 t2 => ?_)
  refine W.newa hx hb (by rw [hty]; exact hts _ hac) rfl hdg rfl (fun hn => by have := (hf_lt0 hri).mp hn; omega) ?_ (by rw [hRc]; omega) (by rw [hRs, ecl]; omega) (fun cA kA comp r1 r2 r3 => ?_)
  · rw [ecl, hty]
    have : componentBytes (hf_aty tg) ≤ 8 := by
      rcases (show tg = 20 ∨ tg = 21 ∨ tg = 22 ∨ tg = 23 by omega) with rfl | rfl | rfl | rfl <;> decide
    calc n.toNat * componentBytes (hf_aty tg) ≤ n.toNat * 8 := Nat.mul_le_mul_left _ this
      _ ≤ 536870912 := by omega
  · obtain ⟨kA', comp', a1, a2, -, a4⟩ := hK.2.1 tg h1 (by omega)
    rw [hty] at r1
    have ecA : cA = G.2.2.2 tg := by rw [r1] at a4; exact Option.some.inj a4
    subst ecA
    rw [ecl]
    have hcell : hf_cell G (tg, n.toNat) (fun _ => 0) { cls := G.2.2.2 tg, slots := Array.replicate n.toNat (defaultValue (newarray.typeOf at0)), vm := .none } := by
      refine ⟨rfl, by simp, fun _ => by unfold hf_cls; rw [if_neg (by omega)], fun j hj => ?_⟩
      have hj : j < n.toNat := by unfold hf_num at hj; rw [if_neg (by omega), if_pos (by omega)] at hj; exact hj
      have e5 : hf_slot G tg j = j := by unfold hf_slot; rw [if_neg (by omega)]
      have e6 : hf_ty tg j = hf_aty tg := by unfold hf_ty; rw [if_neg (by omega)]
      show (Array.replicate n.toNat (defaultValue (newarray.typeOf at0)))[hf_slot G tg j]? = some (hf_v G (hf_code (hf_ty tg j)) 0)
      rw [e5, e6, hty]
      simp only [Array.getElem?_replicate, if_pos hj]
      exact congrArg some (hf_dflt (by rcases (show tg = 20 ∨ tg = 21 ∨ tg = 22 ∨ tg = 23 by omega) with rfl | rfl | rfl | rfl <;> decide))
    have hz := hP.1
    have w := h _ p l e R s m args below meth c G n0 s0 C0 _ locs ls _ σ' r (σ.1 - n0 + 1) (hf_sl σ - s0 + n.toNat) Q (hP.push hcell c1 c2) hL hlv hk hret
    have ev : hf_v G 2 ((σ.1 + 1 : Nat) : Int) = .ref H.size := by
      unfold hf_v; simp only; rw [if_neg (by omega), if_pos (by omega), hz]; congr 1
    have w2 : W p l e R s m args below meth c _ locs (σ.1 - n0 + 1) (hf_sl σ - s0 + n.toNat) Q (F0 m (pc + 2) ls (hf_v G 2 ((σ.1 + 1 : Nat) : Int) :: st.map (hf_w G))) := w
    rw [ev] at w2
    exact w2
theorem hf_anewa0 {i : Nat} {n : Int} {f : Int → hf_M Int} (hcl : Cond.classLink M.1.cls i (FieldType.array .int).toString ∈ hf_all) (hdg : decode M.2.1 pc = .ok (.anewarray i, 3))
    (h : ∀ v, hf_J M (pc + 3) lv ((2, v) :: st) (f v)) : hf_J M pc lv ((0, n) :: st) (hf_bd (hf_na 24 n) f) := by
  intro p l e R s m args below meth c G n0 s0 C H locs ls σ σ' r cells slots Q hP hL hlv hk hret
  obtain ⟨c0, hk⟩ := hf_na_some hk
  obtain ⟨c1, c2, hk⟩ := hf_nw_some hk
  have C0 := C
  obtain ⟨hx, hb, -, hown, hts, -, -, -, ⟨-, -, hRc, hRs⟩, hsz, hs0, hK⟩ := C
  have hcs : hf_cs = 7293034 := rfl
  have hri : hf_inI n := ⟨by omega, by omega⟩
  have ecl : (Int32.ofInt n).toNatClampNeg = n.toNat := by show (Int32.ofInt n).toInt.toNat = n.toNat; rw [hf_toInt hri]
  refine hf_tight hsz hs0 hP (fun t1 t2 => ?_)
  refine W.anewA hx hb hown (hts _ hcl) hK.2.2.2.2.2.2.2.1 rfl hdg rfl (fun hn => by have := (hf_lt0 hri).mp hn; omega) (by rw [ecl]; omega) (by rw [hRc]; omega) (by rw [hRs, ecl]; omega) (fun cA kA comp r1 r2 r3 r4 => ?_)
  obtain ⟨kA', comp', a1, a2, -, a4⟩ := hK.2.1 24 (by omega) (by omega)
  have ecA : cA = G.2.2.2 24 := by have : s.vm.findClass ("[" ++ (FieldType.array FieldType.int).toString) = some (G.2.2.2 24) := a4; rw [r1] at this; exact Option.some.inj this
  subst ecA
  rw [ecl]
  have hcell : hf_cell G (24, n.toNat) (fun _ => 0) { cls := G.2.2.2 24, slots := Array.replicate n.toNat .null, vm := .none } := by
    refine ⟨rfl, by simp, fun _ => rfl, fun j hj => ?_⟩
    have hj : j < n.toNat := hj
    show (Array.replicate n.toNat Value.null)[j]? = some Value.null
    simp only [Array.getElem?_replicate, if_pos hj]
  have hz := hP.1
  have w := h _ p l e R s m args below meth c G n0 s0 C0 _ locs ls _ σ' r (σ.1 - n0 + 1) (hf_sl σ - s0 + n.toNat) Q (hP.push hcell c1 c2) hL hlv hk hret
  have ev : hf_v G 2 ((σ.1 + 1 : Nat) : Int) = .ref H.size := by
    unfold hf_v; simp only; rw [if_neg (by omega), if_pos (by omega), hz]; congr 1
  have w2 : W p l e R s m args below meth c _ locs (σ.1 - n0 + 1) (hf_sl σ - s0 + n.toNat) Q (F0 m (pc + 3) ls (hf_v G 2 ((σ.1 + 1 : Nat) : Int) :: st.map (hf_w G))) := w
  rw [ev] at w2
  exact w2
end HFA
